set_option maxRecDepth 100000 in
theorem tw_91 : Cond.code yX8_init cX8_init 1 none ∈ lw_tbl := List.mem_append_right _ (List.mem_append_left _ (List.mem_of_getElem? (i := 18) rfl))
set_option maxRecDepth 100000 in
theorem tw_81 : Cond.initialized RX6 ∈ lw_tbl := List.mem_append_right _ (List.mem_append_left _ (List.mem_of_getElem? (i := 8) rfl))
set_option maxRecDepth 100000 in
theorem tw_251 : Cond.instantiable RX6 4 ∈ lw_tbl := List.mem_append_right _ (List.mem_append_left _ (List.mem_of_getElem? (i := 178) rfl))
set_option maxRecDepth 100000 in
theorem tw_250 : Cond.classLink RX8 46 RX6 ∈ lw_tbl := List.mem_append_right _ (List.mem_append_left _ (List.mem_of_getElem? (i := 177) rfl))
set_option maxRecDepth 100000 in
theorem tw_296 : Cond.fieldLink RX8 42 "TightHulls" "hull" "LTightHulls$Hull;" ∈ lw_tbl := List.mem_append_right _ (List.mem_append_left _ (List.mem_of_getElem? (i := 223) rfl))
set_option maxRecDepth 100000 in
theorem tw_80 : Cond.initialized RX0 ∈ lw_tbl := List.mem_append_right _ (List.mem_append_left _ (List.mem_of_getElem? (i := 7) rfl))
set_option maxRecDepth 100000 in
theorem tw_218 : Cond.instantiable RX0 7 ∈ lw_tbl := List.mem_append_right _ (List.mem_append_left _ (List.mem_of_getElem? (i := 145) rfl))
set_option maxRecDepth 100000 in
theorem tw_217 : Cond.classLink RX8 39 RX0 ∈ lw_tbl := List.mem_append_right _ (List.mem_append_left _ (List.mem_of_getElem? (i := 144) rfl))
set_option maxRecDepth 100000 in
theorem tw_295 : Cond.fieldLink RX8 35 "TightHulls" "splits" "LTightHulls$Splits;" ∈ lw_tbl := List.mem_append_right _ (List.mem_append_left _ (List.mem_of_getElem? (i := 222) rfl))
set_option maxRecDepth 100000 in
theorem tw_79 : Cond.initialized RX3 ∈ lw_tbl := List.mem_append_right _ (List.mem_append_left _ (List.mem_of_getElem? (i := 6) rfl))
set_option maxRecDepth 100000 in
theorem tw_191 : Cond.instantiable RX3 5 ∈ lw_tbl := List.mem_append_right _ (List.mem_append_left _ (List.mem_of_getElem? (i := 118) rfl))
set_option maxRecDepth 100000 in
theorem tw_190 : Cond.classLink RX8 32 RX3 ∈ lw_tbl := List.mem_append_right _ (List.mem_append_left _ (List.mem_of_getElem? (i := 117) rfl))
set_option maxRecDepth 100000 in
theorem tw_294 : Cond.fieldLink RX8 28 "TightHulls" "trial" "LTightHulls$Table;" ∈ lw_tbl := List.mem_append_right _ (List.mem_append_left _ (List.mem_of_getElem? (i := 221) rfl))
set_option maxRecDepth 100000 in
theorem tw_76 : Cond.initialized RX4 ∈ lw_tbl := List.mem_append_right _ (List.mem_append_left _ (List.mem_of_getElem? (i := 3) rfl))
set_option maxRecDepth 100000 in
theorem tw_102 : Cond.instantiable RX4 2 ∈ lw_tbl := List.mem_append_right _ (List.mem_append_left _ (List.mem_of_getElem? (i := 29) rfl))
set_option maxRecDepth 100000 in
theorem tw_188 : Cond.classLink RX8 25 RX4 ∈ lw_tbl := List.mem_append_right _ (List.mem_append_left _ (List.mem_of_getElem? (i := 115) rfl))
set_option maxRecDepth 100000 in
theorem tw_293 : Cond.fieldLink RX8 21 "TightHulls" "isTaken" "Z" ∈ lw_tbl := List.mem_append_right _ (List.mem_append_left _ (List.mem_of_getElem? (i := 220) rfl))
set_option maxRecDepth 100000 in
theorem tw_292 : Cond.fieldLink RX8 18 "TightHulls" "taken" "LTightHulls$Setup;" ∈ lw_tbl := List.mem_append_right _ (List.mem_append_left _ (List.mem_of_getElem? (i := 219) rfl))
set_option maxRecDepth 100000 in
theorem tw_291 : Cond.fieldLink RX8 12 "TightHulls" "now" "LTightHulls$Setup;" ∈ lw_tbl := List.mem_append_right _ (List.mem_append_left _ (List.mem_of_getElem? (i := 218) rfl))
set_option maxRecDepth 100000 in
theorem tw_75 : Cond.initialized RX2 ∈ lw_tbl := List.mem_append_right _ (List.mem_append_left _ (List.mem_of_getElem? (i := 2) rfl))
set_option maxRecDepth 100000 in
theorem tw_96 : Cond.instantiable RX2 6 ∈ lw_tbl := List.mem_append_right _ (List.mem_append_left _ (List.mem_of_getElem? (i := 23) rfl))
set_option maxRecDepth 100000 in
theorem tw_95 : Cond.classLink RX8 9 RX2 ∈ lw_tbl := List.mem_append_right _ (List.mem_append_left _ (List.mem_of_getElem? (i := 22) rfl))
set_option maxRecDepth 100000 in
theorem tw_94 : Cond.code objectInit ⟨#[0xb1]⟩ 1 none ∈ lw_tbl := List.mem_append_right _ (List.mem_append_left _ (List.mem_of_getElem? (i := 21) rfl))
set_option maxRecDepth 100000 in
theorem tw_93 : Cond.instanceMethod objectInit ∈ lw_tbl := List.mem_append_right _ (List.mem_append_left _ (List.mem_of_getElem? (i := 20) rfl))
set_option maxRecDepth 100000 in
theorem tw_92 : Cond.methodLink RX8 3 objectInit ∈ lw_tbl := List.mem_append_right _ (List.mem_append_left _ (List.mem_of_getElem? (i := 19) rfl))
set_option maxRecDepth 100000 in
theorem dl_wsX8_init_r1 : ∀ w ∈ wsX8_init_r1, w ∈ lw_tbl := (List.forall_mem_cons.mpr ⟨tw_92, (List.forall_mem_cons.mpr ⟨tw_93, (List.forall_mem_cons.mpr ⟨tw_94, (List.forall_mem_cons.mpr ⟨tw_95, (List.forall_mem_cons.mpr ⟨tw_96, (List.forall_mem_cons.mpr ⟨tw_75, (List.forall_mem_cons.mpr ⟨tw_291, (List.forall_mem_cons.mpr ⟨tw_292, (List.forall_mem_cons.mpr ⟨tw_293, (List.forall_mem_cons.mpr ⟨tw_188, (List.forall_mem_cons.mpr ⟨tw_102, (List.forall_mem_cons.mpr ⟨tw_76, (List.forall_mem_cons.mpr ⟨tw_294, (List.forall_mem_cons.mpr ⟨tw_190, (List.forall_mem_cons.mpr ⟨tw_191, (List.forall_mem_cons.mpr ⟨tw_79, (List.forall_mem_cons.mpr ⟨tw_295, (List.forall_mem_cons.mpr ⟨tw_217, (List.forall_mem_cons.mpr ⟨tw_218, (List.forall_mem_cons.mpr ⟨tw_80, (List.forall_mem_cons.mpr ⟨tw_296, (List.forall_mem_cons.mpr ⟨tw_250, (List.forall_mem_cons.mpr ⟨tw_251, (List.forall_mem_cons.mpr ⟨tw_81, (fun _ h => absurd h List.not_mem_nil)⟩)⟩)⟩)⟩)⟩)⟩)⟩)⟩)⟩)⟩)⟩)⟩)⟩)⟩)⟩)⟩)⟩)⟩)⟩)⟩)⟩)⟩)⟩)⟩)
set_option maxRecDepth 100000 in
theorem tw_106 : Cond.methodLink RX4 3 objectInit ∈ lw_tbl := List.mem_append_right _ (List.mem_append_left _ (List.mem_of_getElem? (i := 33) rfl))
set_option maxRecDepth 100000 in
theorem tw_105 : Cond.code yX4_init cX4_init 1 none ∈ lw_tbl := List.mem_append_right _ (List.mem_append_left _ (List.mem_of_getElem? (i := 32) rfl))
set_option maxRecDepth 100000 in
theorem tw_104 : Cond.instanceMethod yX4_init ∈ lw_tbl := List.mem_append_right _ (List.mem_append_left _ (List.mem_of_getElem? (i := 31) rfl))
set_option maxRecDepth 100000 in
theorem tw_103 : Cond.methodLink RX2 11 yX4_init ∈ lw_tbl := List.mem_append_right _ (List.mem_append_left _ (List.mem_of_getElem? (i := 30) rfl))
set_option maxRecDepth 100000 in
theorem tw_173 : Cond.fieldLink RX2 37 "TightHulls$Setup" "book" "LTightHulls$Rows;" ∈ lw_tbl := List.mem_append_right _ (List.mem_append_left _ (List.mem_of_getElem? (i := 100) rfl))
set_option maxRecDepth 100000 in
theorem tw_171 : Cond.fieldLink RX2 34 "TightHulls$Setup" "events" "LTightHulls$Rows;" ∈ lw_tbl := List.mem_append_right _ (List.mem_append_left _ (List.mem_of_getElem? (i := 98) rfl))
set_option maxRecDepth 100000 in
theorem tw_169 : Cond.fieldLink RX2 30 "TightHulls$Setup" "seen" "LTightHulls$Rows;" ∈ lw_tbl := List.mem_append_right _ (List.mem_append_left _ (List.mem_of_getElem? (i := 96) rfl))
set_option maxRecDepth 100000 in
theorem tw_78 : Cond.initialized RX1 ∈ lw_tbl := List.mem_append_right _ (List.mem_append_left _ (List.mem_of_getElem? (i := 5) rfl))
set_option maxRecDepth 100000 in
theorem tw_139 : Cond.instantiable RX1 3 ∈ lw_tbl := List.mem_append_right _ (List.mem_append_left _ (List.mem_of_getElem? (i := 66) rfl))
set_option maxRecDepth 100000 in
theorem tw_138 : Cond.classLink RX2 25 RX1 ∈ lw_tbl := List.mem_append_right _ (List.mem_append_left _ (List.mem_of_getElem? (i := 65) rfl))
set_option maxRecDepth 100000 in
theorem tw_167 : Cond.fieldLink RX2 22 "TightHulls$Setup" "images" "[I" ∈ lw_tbl := List.mem_append_right _ (List.mem_append_left _ (List.mem_of_getElem? (i := 94) rfl))
set_option maxRecDepth 100000 in
theorem tw_165 : Cond.fieldLink RX2 18 "TightHulls$Setup" "numbers" "[I" ∈ lw_tbl := List.mem_append_right _ (List.mem_append_left _ (List.mem_of_getElem? (i := 92) rfl))
set_option maxRecDepth 100000 in
theorem tw_137 : Cond.arrayClass .int ∈ lw_tbl := List.mem_append_right _ (List.mem_append_left _ (List.mem_of_getElem? (i := 64) rfl))
set_option maxRecDepth 100000 in
theorem tw_162 : Cond.fieldLink RX2 12 "TightHulls$Setup" "table" "LTightHulls$Table;" ∈ lw_tbl := List.mem_append_right _ (List.mem_append_left _ (List.mem_of_getElem? (i := 89) rfl))
set_option maxRecDepth 100000 in
theorem tw_101 : Cond.classLink RX2 9 RX4 ∈ lw_tbl := List.mem_append_right _ (List.mem_append_left _ (List.mem_of_getElem? (i := 28) rfl))
set_option maxRecDepth 100000 in
theorem tw_100 : Cond.methodLink RX2 3 objectInit ∈ lw_tbl := List.mem_append_right _ (List.mem_append_left _ (List.mem_of_getElem? (i := 27) rfl))
set_option maxRecDepth 100000 in
theorem tw_99 : Cond.code yX2_init cX2_init 1 none ∈ lw_tbl := List.mem_append_right _ (List.mem_append_left _ (List.mem_of_getElem? (i := 26) rfl))
set_option maxRecDepth 100000 in
theorem tw_98 : Cond.instanceMethod yX2_init ∈ lw_tbl := List.mem_append_right _ (List.mem_append_left _ (List.mem_of_getElem? (i := 25) rfl))
set_option maxRecDepth 100000 in
theorem tw_97 : Cond.methodLink RX8 11 yX2_init ∈ lw_tbl := List.mem_append_right _ (List.mem_append_left _ (List.mem_of_getElem? (i := 24) rfl))
set_option maxRecDepth 100000 in
theorem tw_298 : Cond.fieldLink RX8 56 "TightHulls" "tapes" "LTightHulls$Tapes;" ∈ lw_tbl := List.mem_append_right _ (List.mem_append_left _ (List.mem_of_getElem? (i := 225) rfl))
set_option maxRecDepth 100000 in
theorem tw_82 : Cond.initialized RX5 ∈ lw_tbl := List.mem_append_right _ (List.mem_append_left _ (List.mem_of_getElem? (i := 9) rfl))
set_option maxRecDepth 100000 in
theorem tw_272 : Cond.instantiable RX5 3 ∈ lw_tbl := List.mem_append_right _ (List.mem_append_left _ (List.mem_of_getElem? (i := 199) rfl))
set_option maxRecDepth 100000 in
theorem tw_271 : Cond.classLink RX8 53 RX5 ∈ lw_tbl := List.mem_append_right _ (List.mem_append_left _ (List.mem_of_getElem? (i := 198) rfl))
set_option maxRecDepth 100000 in
theorem tw_297 : Cond.fieldLink RX8 49 "TightHulls" "text" "LTightHulls$Text;" ∈ lw_tbl := List.mem_append_right _ (List.mem_append_left _ (List.mem_of_getElem? (i := 224) rfl))
set_option maxRecDepth 100000 in
theorem dl_wsX8_init_r2 : ∀ w ∈ wsX8_init_r2, w ∈ lw_tbl := (List.forall_mem_cons.mpr ⟨tw_297, (List.forall_mem_cons.mpr ⟨tw_271, (List.forall_mem_cons.mpr ⟨tw_272, (List.forall_mem_cons.mpr ⟨tw_82, (List.forall_mem_cons.mpr ⟨tw_298, (List.forall_mem_cons.mpr ⟨tw_97, (List.forall_mem_cons.mpr ⟨tw_98, (List.forall_mem_cons.mpr ⟨tw_99, (List.forall_mem_cons.mpr ⟨tw_100, (List.forall_mem_cons.mpr ⟨tw_101, (List.forall_mem_cons.mpr ⟨tw_162, (List.forall_mem_cons.mpr ⟨tw_137, (List.forall_mem_cons.mpr ⟨tw_165, (List.forall_mem_cons.mpr ⟨tw_167, (List.forall_mem_cons.mpr ⟨tw_138, (List.forall_mem_cons.mpr ⟨tw_139, (List.forall_mem_cons.mpr ⟨tw_78, (List.forall_mem_cons.mpr ⟨tw_169, (List.forall_mem_cons.mpr ⟨tw_171, (List.forall_mem_cons.mpr ⟨tw_173, (List.forall_mem_cons.mpr ⟨tw_103, (List.forall_mem_cons.mpr ⟨tw_104, (List.forall_mem_cons.mpr ⟨tw_105, (List.forall_mem_cons.mpr ⟨tw_106, (fun _ h => absurd h List.not_mem_nil)⟩)⟩)⟩)⟩)⟩)⟩)⟩)⟩)⟩)⟩)⟩)⟩)⟩)⟩)⟩)⟩)⟩)⟩)⟩)⟩)⟩)⟩)⟩)⟩)
set_option maxRecDepth 100000 in
theorem tw_142 : Cond.code yX1_init cX1_init 2 none ∈ lw_tbl := List.mem_append_right _ (List.mem_append_left _ (List.mem_of_getElem? (i := 69) rfl))
set_option maxRecDepth 100000 in
theorem tw_141 : Cond.instanceMethod yX1_init ∈ lw_tbl := List.mem_append_right _ (List.mem_append_left _ (List.mem_of_getElem? (i := 68) rfl))
set_option maxRecDepth 100000 in
theorem tw_140 : Cond.methodLink RX2 27 yX1_init ∈ lw_tbl := List.mem_append_right _ (List.mem_append_left _ (List.mem_of_getElem? (i := 67) rfl))
set_option maxRecDepth 100000 in
theorem tw_124 : Cond.code yX4_areTwo cX4_areTwo 3 (some .boolean) ∈ lw_tbl := List.mem_append_right _ (List.mem_append_left _ (List.mem_of_getElem? (i := 51) rfl))
set_option maxRecDepth 100000 in
theorem tw_123 : Cond.selects RX4 yX4_areTwo yX4_areTwo ∈ lw_tbl := List.mem_append_right _ (List.mem_append_left _ (List.mem_of_getElem? (i := 50) rfl))
set_option maxRecDepth 100000 in
theorem tw_122 : Cond.instanceMethod yX4_areTwo ∈ lw_tbl := List.mem_append_right _ (List.mem_append_left _ (List.mem_of_getElem? (i := 49) rfl))
set_option maxRecDepth 100000 in
theorem tw_121 : Cond.methodLink RX4 42 yX4_areTwo ∈ lw_tbl := List.mem_append_right _ (List.mem_append_left _ (List.mem_of_getElem? (i := 48) rfl))
set_option maxRecDepth 100000 in
theorem tw_120 : Cond.code yX4_put cX4_put 4 none ∈ lw_tbl := List.mem_append_right _ (List.mem_append_left _ (List.mem_of_getElem? (i := 47) rfl))
set_option maxRecDepth 100000 in
theorem tw_119 : Cond.selects RX4 yX4_put yX4_put ∈ lw_tbl := List.mem_append_right _ (List.mem_append_left _ (List.mem_of_getElem? (i := 46) rfl))
set_option maxRecDepth 100000 in
theorem tw_118 : Cond.instanceMethod yX4_put ∈ lw_tbl := List.mem_append_right _ (List.mem_append_left _ (List.mem_of_getElem? (i := 45) rfl))
set_option maxRecDepth 100000 in
theorem tw_117 : Cond.methodLink RX4 32 yX4_put ∈ lw_tbl := List.mem_append_right _ (List.mem_append_left _ (List.mem_of_getElem? (i := 44) rfl))
set_option maxRecDepth 100000 in
theorem tw_126 : Cond.fieldLink RX4 28 "TightHulls$Table" "size" "I" ∈ lw_tbl := List.mem_append_right _ (List.mem_append_left _ (List.mem_of_getElem? (i := 53) rfl))
set_option maxRecDepth 100000 in
theorem tw_116 : Cond.code Lib.Math.max.name Lib.Math.max.code 2 (some .int) ∈ lw_tbl := List.mem_append_right _ (List.mem_append_left _ (List.mem_of_getElem? (i := 43) rfl))
set_option maxRecDepth 100000 in
theorem tw_115 : Cond.static Lib.Math.max.name ∈ lw_tbl := List.mem_append_right _ (List.mem_append_left _ (List.mem_of_getElem? (i := 42) rfl))
set_option maxRecDepth 100000 in
theorem tw_114 : Cond.methodLink RX4 25 Lib.Math.max.name ∈ lw_tbl := List.mem_append_right _ (List.mem_append_left _ (List.mem_of_getElem? (i := 41) rfl))
set_option maxRecDepth 100000 in
theorem tw_113 : Cond.code Lib.Math.min.name Lib.Math.min.code 2 (some .int) ∈ lw_tbl := List.mem_append_right _ (List.mem_append_left _ (List.mem_of_getElem? (i := 40) rfl))
set_option maxRecDepth 100000 in
theorem tw_77 : Cond.initialized "java/lang/Math" ∈ lw_tbl := List.mem_append_right _ (List.mem_append_left _ (List.mem_of_getElem? (i := 4) rfl))
set_option maxRecDepth 100000 in
theorem tw_112 : Cond.static Lib.Math.min.name ∈ lw_tbl := List.mem_append_right _ (List.mem_append_left _ (List.mem_of_getElem? (i := 39) rfl))
set_option maxRecDepth 100000 in
theorem tw_111 : Cond.methodLink RX4 19 Lib.Math.min.name ∈ lw_tbl := List.mem_append_right _ (List.mem_append_left _ (List.mem_of_getElem? (i := 38) rfl))
set_option maxRecDepth 100000 in
theorem tw_110 : Cond.code yX4_spread cX4_spread 4 none ∈ lw_tbl := List.mem_append_right _ (List.mem_append_left _ (List.mem_of_getElem? (i := 37) rfl))
set_option maxRecDepth 100000 in
theorem tw_109 : Cond.selects RX4 yX4_spread yX4_spread ∈ lw_tbl := List.mem_append_right _ (List.mem_append_left _ (List.mem_of_getElem? (i := 36) rfl))
set_option maxRecDepth 100000 in
theorem tw_108 : Cond.instanceMethod yX4_spread ∈ lw_tbl := List.mem_append_right _ (List.mem_append_left _ (List.mem_of_getElem? (i := 35) rfl))
set_option maxRecDepth 100000 in
theorem tw_107 : Cond.methodLink RX4 15 yX4_spread ∈ lw_tbl := List.mem_append_right _ (List.mem_append_left _ (List.mem_of_getElem? (i := 34) rfl))
set_option maxRecDepth 100000 in
theorem tw_131 : Cond.fieldLink RX4 9 "TightHulls$Table" "gaps" "[I" ∈ lw_tbl := List.mem_append_right _ (List.mem_append_left _ (List.mem_of_getElem? (i := 58) rfl))
set_option maxRecDepth 100000 in
theorem dl_wsX8_init_r3 : ∀ w ∈ wsX8_init_r3, w ∈ lw_tbl := (List.forall_mem_cons.mpr ⟨tw_131, (List.forall_mem_cons.mpr ⟨tw_107, (List.forall_mem_cons.mpr ⟨tw_108, (List.forall_mem_cons.mpr ⟨tw_109, (List.forall_mem_cons.mpr ⟨tw_110, (List.forall_mem_cons.mpr ⟨tw_111, (List.forall_mem_cons.mpr ⟨tw_112, (List.forall_mem_cons.mpr ⟨tw_77, (List.forall_mem_cons.mpr ⟨tw_113, (List.forall_mem_cons.mpr ⟨tw_114, (List.forall_mem_cons.mpr ⟨tw_115, (List.forall_mem_cons.mpr ⟨tw_116, (List.forall_mem_cons.mpr ⟨tw_126, (List.forall_mem_cons.mpr ⟨tw_117, (List.forall_mem_cons.mpr ⟨tw_118, (List.forall_mem_cons.mpr ⟨tw_119, (List.forall_mem_cons.mpr ⟨tw_120, (List.forall_mem_cons.mpr ⟨tw_121, (List.forall_mem_cons.mpr ⟨tw_122, (List.forall_mem_cons.mpr ⟨tw_123, (List.forall_mem_cons.mpr ⟨tw_124, (List.forall_mem_cons.mpr ⟨tw_140, (List.forall_mem_cons.mpr ⟨tw_141, (List.forall_mem_cons.mpr ⟨tw_142, (fun _ h => absurd h List.not_mem_nil)⟩)⟩)⟩)⟩)⟩)⟩)⟩)⟩)⟩)⟩)⟩)⟩)⟩)⟩)⟩)⟩)⟩)⟩)⟩)⟩)⟩)⟩)⟩)⟩)
set_option maxRecDepth 100000 in
theorem tw_220 : Cond.instanceMethod yX0_init ∈ lw_tbl := List.mem_append_right _ (List.mem_append_left _ (List.mem_of_getElem? (i := 147) rfl))
set_option maxRecDepth 100000 in
theorem tw_219 : Cond.methodLink RX8 41 yX0_init ∈ lw_tbl := List.mem_append_right _ (List.mem_append_left _ (List.mem_of_getElem? (i := 146) rfl))
set_option maxRecDepth 100000 in
theorem tw_197 : Cond.methodLink RX3 9 yX4_init ∈ lw_tbl := List.mem_append_right _ (List.mem_append_left _ (List.mem_of_getElem? (i := 124) rfl))
set_option maxRecDepth 100000 in
theorem tw_204 : Cond.fieldLink RX3 27 "TightHulls$Splits" "held" "I" ∈ lw_tbl := List.mem_append_right _ (List.mem_append_left _ (List.mem_of_getElem? (i := 131) rfl))
set_option maxRecDepth 100000 in
theorem tw_202 : Cond.fieldLink RX3 24 "TightHulls$Splits" "weights" "[I" ∈ lw_tbl := List.mem_append_right _ (List.mem_append_left _ (List.mem_of_getElem? (i := 129) rfl))
set_option maxRecDepth 100000 in
theorem tw_200 : Cond.fieldLink RX3 20 "TightHulls$Splits" "bits" "[I" ∈ lw_tbl := List.mem_append_right _ (List.mem_append_left _ (List.mem_of_getElem? (i := 127) rfl))
set_option maxRecDepth 100000 in
theorem tw_199 : Cond.fieldLink RX3 16 "TightHulls$Splits" "followed" "Z" ∈ lw_tbl := List.mem_append_right _ (List.mem_append_left _ (List.mem_of_getElem? (i := 126) rfl))
set_option maxRecDepth 100000 in
theorem tw_198 : Cond.fieldLink RX3 10 "TightHulls$Splits" "basis" "LTightHulls$Table;" ∈ lw_tbl := List.mem_append_right _ (List.mem_append_left _ (List.mem_of_getElem? (i := 125) rfl))
set_option maxRecDepth 100000 in
theorem tw_196 : Cond.classLink RX3 7 RX4 ∈ lw_tbl := List.mem_append_right _ (List.mem_append_left _ (List.mem_of_getElem? (i := 123) rfl))
set_option maxRecDepth 100000 in
theorem tw_195 : Cond.methodLink RX3 1 objectInit ∈ lw_tbl := List.mem_append_right _ (List.mem_append_left _ (List.mem_of_getElem? (i := 122) rfl))
set_option maxRecDepth 100000 in
theorem tw_194 : Cond.code yX3_init cX3_init 1 none ∈ lw_tbl := List.mem_append_right _ (List.mem_append_left _ (List.mem_of_getElem? (i := 121) rfl))
set_option maxRecDepth 100000 in
theorem tw_193 : Cond.instanceMethod yX3_init ∈ lw_tbl := List.mem_append_right _ (List.mem_append_left _ (List.mem_of_getElem? (i := 120) rfl))
set_option maxRecDepth 100000 in
theorem tw_192 : Cond.methodLink RX8 34 yX3_init ∈ lw_tbl := List.mem_append_right _ (List.mem_append_left _ (List.mem_of_getElem? (i := 119) rfl))
set_option maxRecDepth 100000 in
theorem tw_189 : Cond.methodLink RX8 27 yX4_init ∈ lw_tbl := List.mem_append_right _ (List.mem_append_left _ (List.mem_of_getElem? (i := 116) rfl))
set_option maxRecDepth 100000 in
theorem tw_161 : Cond.methodLink RX2 57 yX4_spread ∈ lw_tbl := List.mem_append_right _ (List.mem_append_left _ (List.mem_of_getElem? (i := 88) rfl))
set_option maxRecDepth 100000 in
theorem tw_160 : Cond.code yX2_begin cX2_begin 3 (some .boolean) ∈ lw_tbl := List.mem_append_right _ (List.mem_append_left _ (List.mem_of_getElem? (i := 87) rfl))
set_option maxRecDepth 100000 in
theorem tw_159 : Cond.selects RX2 yX2_begin yX2_begin ∈ lw_tbl := List.mem_append_right _ (List.mem_append_left _ (List.mem_of_getElem? (i := 86) rfl))
set_option maxRecDepth 100000 in
theorem tw_158 : Cond.instanceMethod yX2_begin ∈ lw_tbl := List.mem_append_right _ (List.mem_append_left _ (List.mem_of_getElem? (i := 85) rfl))
set_option maxRecDepth 100000 in
theorem tw_157 : Cond.methodLink RX2 40 yX2_begin ∈ lw_tbl := List.mem_append_right _ (List.mem_append_left _ (List.mem_of_getElem? (i := 84) rfl))
set_option maxRecDepth 100000 in
theorem tw_147 : Cond.fieldLink RX1 23 "TightHulls$Rows" "held" "I" ∈ lw_tbl := List.mem_append_right _ (List.mem_append_left _ (List.mem_of_getElem? (i := 74) rfl))
set_option maxRecDepth 100000 in
theorem tw_146 : Cond.fieldLink RX1 19 "TightHulls$Rows" "cells" "[I" ∈ lw_tbl := List.mem_append_right _ (List.mem_append_left _ (List.mem_of_getElem? (i := 73) rfl))
set_option maxRecDepth 100000 in
theorem tw_145 : Cond.fieldLink RX1 13 "TightHulls$Rows" "most" "I" ∈ lw_tbl := List.mem_append_right _ (List.mem_append_left _ (List.mem_of_getElem? (i := 72) rfl))
set_option maxRecDepth 100000 in
theorem tw_144 : Cond.methodLink RX1 7 Lib.Math.max.name ∈ lw_tbl := List.mem_append_right _ (List.mem_append_left _ (List.mem_of_getElem? (i := 71) rfl))
set_option maxRecDepth 100000 in
theorem tw_143 : Cond.methodLink RX1 1 objectInit ∈ lw_tbl := List.mem_append_right _ (List.mem_append_left _ (List.mem_of_getElem? (i := 70) rfl))
set_option maxRecDepth 100000 in
theorem dl_wsX8_init_r4 : ∀ w ∈ wsX8_init_r4, w ∈ lw_tbl := (List.forall_mem_cons.mpr ⟨tw_143, (List.forall_mem_cons.mpr ⟨tw_144, (List.forall_mem_cons.mpr ⟨tw_145, (List.forall_mem_cons.mpr ⟨tw_146, (List.forall_mem_cons.mpr ⟨tw_147, (List.forall_mem_cons.mpr ⟨tw_157, (List.forall_mem_cons.mpr ⟨tw_158, (List.forall_mem_cons.mpr ⟨tw_159, (List.forall_mem_cons.mpr ⟨tw_160, (List.forall_mem_cons.mpr ⟨tw_161, (List.forall_mem_cons.mpr ⟨tw_189, (List.forall_mem_cons.mpr ⟨tw_192, (List.forall_mem_cons.mpr ⟨tw_193, (List.forall_mem_cons.mpr ⟨tw_194, (List.forall_mem_cons.mpr ⟨tw_195, (List.forall_mem_cons.mpr ⟨tw_196, (List.forall_mem_cons.mpr ⟨tw_198, (List.forall_mem_cons.mpr ⟨tw_199, (List.forall_mem_cons.mpr ⟨tw_200, (List.forall_mem_cons.mpr ⟨tw_202, (List.forall_mem_cons.mpr ⟨tw_204, (List.forall_mem_cons.mpr ⟨tw_197, (List.forall_mem_cons.mpr ⟨tw_219, (List.forall_mem_cons.mpr ⟨tw_220, (fun _ h => absurd h List.not_mem_nil)⟩)⟩)⟩)⟩)⟩)⟩)⟩)⟩)⟩)⟩)⟩)⟩)⟩)⟩)⟩)⟩)⟩)⟩)⟩)⟩)⟩)⟩)⟩)⟩)
set_option maxRecDepth 100000 in
theorem tw_275 : Cond.code yX5_init cX5_init 2 none ∈ lw_tbl := List.mem_append_right _ (List.mem_append_left _ (List.mem_of_getElem? (i := 202) rfl))
set_option maxRecDepth 100000 in
theorem tw_274 : Cond.instanceMethod yX5_init ∈ lw_tbl := List.mem_append_right _ (List.mem_append_left _ (List.mem_of_getElem? (i := 201) rfl))
set_option maxRecDepth 100000 in
theorem tw_273 : Cond.methodLink RX8 55 yX5_init ∈ lw_tbl := List.mem_append_right _ (List.mem_append_left _ (List.mem_of_getElem? (i := 200) rfl))
set_option maxRecDepth 100000 in
theorem tw_260 : Cond.fieldLink RX6 21 "TightHulls$Text" "clauses" "I" ∈ lw_tbl := List.mem_append_right _ (List.mem_append_left _ (List.mem_of_getElem? (i := 187) rfl))
set_option maxRecDepth 100000 in
theorem tw_259 : Cond.fieldLink RX6 17 "TightHulls$Text" "starts" "[I" ∈ lw_tbl := List.mem_append_right _ (List.mem_append_left _ (List.mem_of_getElem? (i := 186) rfl))
set_option maxRecDepth 100000 in
theorem tw_257 : Cond.fieldLink RX6 13 "TightHulls$Text" "held" "I" ∈ lw_tbl := List.mem_append_right _ (List.mem_append_left _ (List.mem_of_getElem? (i := 184) rfl))
set_option maxRecDepth 100000 in
theorem tw_256 : Cond.fieldLink RX6 9 "TightHulls$Text" "signs" "[B" ∈ lw_tbl := List.mem_append_right _ (List.mem_append_left _ (List.mem_of_getElem? (i := 183) rfl))
set_option maxRecDepth 100000 in
theorem tw_270 : Cond.arrayClass .byte ∈ lw_tbl := List.mem_append_right _ (List.mem_append_left _ (List.mem_of_getElem? (i := 197) rfl))
set_option maxRecDepth 100000 in
theorem tw_255 : Cond.methodLink RX6 1 objectInit ∈ lw_tbl := List.mem_append_right _ (List.mem_append_left _ (List.mem_of_getElem? (i := 182) rfl))
set_option maxRecDepth 100000 in
theorem tw_254 : Cond.code yX6_init cX6_init 1 none ∈ lw_tbl := List.mem_append_right _ (List.mem_append_left _ (List.mem_of_getElem? (i := 181) rfl))
set_option maxRecDepth 100000 in
theorem tw_253 : Cond.instanceMethod yX6_init ∈ lw_tbl := List.mem_append_right _ (List.mem_append_left _ (List.mem_of_getElem? (i := 180) rfl))
set_option maxRecDepth 100000 in
theorem tw_252 : Cond.methodLink RX8 48 yX6_init ∈ lw_tbl := List.mem_append_right _ (List.mem_append_left _ (List.mem_of_getElem? (i := 179) rfl))
set_option maxRecDepth 100000 in
theorem tw_224 : Cond.methodLink RX0 11 yX4_init ∈ lw_tbl := List.mem_append_right _ (List.mem_append_left _ (List.mem_of_getElem? (i := 151) rfl))
set_option maxRecDepth 100000 in
theorem tw_232 : Cond.fieldLink RX0 36 "TightHulls$Hull" "held" "I" ∈ lw_tbl := List.mem_append_right _ (List.mem_append_left _ (List.mem_of_getElem? (i := 159) rfl))
set_option maxRecDepth 100000 in
theorem tw_230 : Cond.fieldLink RX0 33 "TightHulls$Hull" "there" "Z" ∈ lw_tbl := List.mem_append_right _ (List.mem_append_left _ (List.mem_of_getElem? (i := 157) rfl))
set_option maxRecDepth 100000 in
theorem tw_229 : Cond.fieldLink RX0 30 "TightHulls$Hull" "twos" "[I" ∈ lw_tbl := List.mem_append_right _ (List.mem_append_left _ (List.mem_of_getElem? (i := 156) rfl))
set_option maxRecDepth 100000 in
theorem tw_228 : Cond.fieldLink RX0 26 "TightHulls$Hull" "keys" "[J" ∈ lw_tbl := List.mem_append_right _ (List.mem_append_left _ (List.mem_of_getElem? (i := 155) rfl))
set_option maxRecDepth 100000 in
theorem tw_249 : Cond.arrayClass .long ∈ lw_tbl := List.mem_append_right _ (List.mem_append_left _ (List.mem_of_getElem? (i := 176) rfl))
set_option maxRecDepth 100000 in
theorem tw_227 : Cond.fieldLink RX0 22 "TightHulls$Hull" "numbers" "[I" ∈ lw_tbl := List.mem_append_right _ (List.mem_append_left _ (List.mem_of_getElem? (i := 154) rfl))
set_option maxRecDepth 100000 in
theorem tw_226 : Cond.fieldLink RX0 18 "TightHulls$Hull" "followed" "Z" ∈ lw_tbl := List.mem_append_right _ (List.mem_append_left _ (List.mem_of_getElem? (i := 153) rfl))
set_option maxRecDepth 100000 in
theorem tw_225 : Cond.fieldLink RX0 12 "TightHulls$Hull" "basis" "LTightHulls$Table;" ∈ lw_tbl := List.mem_append_right _ (List.mem_append_left _ (List.mem_of_getElem? (i := 152) rfl))
set_option maxRecDepth 100000 in
theorem tw_223 : Cond.classLink RX0 9 RX4 ∈ lw_tbl := List.mem_append_right _ (List.mem_append_left _ (List.mem_of_getElem? (i := 150) rfl))
set_option maxRecDepth 100000 in
theorem tw_222 : Cond.methodLink RX0 3 objectInit ∈ lw_tbl := List.mem_append_right _ (List.mem_append_left _ (List.mem_of_getElem? (i := 149) rfl))
set_option maxRecDepth 100000 in
theorem tw_221 : Cond.code yX0_init cX0_init 1 none ∈ lw_tbl := List.mem_append_right _ (List.mem_append_left _ (List.mem_of_getElem? (i := 148) rfl))
set_option maxRecDepth 100000 in
theorem dl_wsX8_init_r5 : ∀ w ∈ wsX8_init_r5, w ∈ lw_tbl := (List.forall_mem_cons.mpr ⟨tw_221, (List.forall_mem_cons.mpr ⟨tw_222, (List.forall_mem_cons.mpr ⟨tw_223, (List.forall_mem_cons.mpr ⟨tw_225, (List.forall_mem_cons.mpr ⟨tw_226, (List.forall_mem_cons.mpr ⟨tw_227, (List.forall_mem_cons.mpr ⟨tw_249, (List.forall_mem_cons.mpr ⟨tw_228, (List.forall_mem_cons.mpr ⟨tw_229, (List.forall_mem_cons.mpr ⟨tw_230, (List.forall_mem_cons.mpr ⟨tw_232, (List.forall_mem_cons.mpr ⟨tw_224, (List.forall_mem_cons.mpr ⟨tw_252, (List.forall_mem_cons.mpr ⟨tw_253, (List.forall_mem_cons.mpr ⟨tw_254, (List.forall_mem_cons.mpr ⟨tw_255, (List.forall_mem_cons.mpr ⟨tw_270, (List.forall_mem_cons.mpr ⟨tw_256, (List.forall_mem_cons.mpr ⟨tw_257, (List.forall_mem_cons.mpr ⟨tw_259, (List.forall_mem_cons.mpr ⟨tw_260, (List.forall_mem_cons.mpr ⟨tw_273, (List.forall_mem_cons.mpr ⟨tw_274, (List.forall_mem_cons.mpr ⟨tw_275, (fun _ h => absurd h List.not_mem_nil)⟩)⟩)⟩)⟩)⟩)⟩)⟩)⟩)⟩)⟩)⟩)⟩)⟩)⟩)⟩)⟩)⟩)⟩)⟩)⟩)⟩)⟩)⟩)⟩)
set_option maxRecDepth 100000 in
theorem tw_283 : Cond.fieldLink RX5 18 "TightHulls$Tapes" "lengths" "[I" ∈ lw_tbl := List.mem_append_right _ (List.mem_append_left _ (List.mem_of_getElem? (i := 210) rfl))
set_option maxRecDepth 100000 in
theorem tw_281 : Cond.fieldLink RX5 14 "TightHulls$Tapes" "sorts" "[I" ∈ lw_tbl := List.mem_append_right _ (List.mem_append_left _ (List.mem_of_getElem? (i := 208) rfl))
set_option maxRecDepth 100000 in
theorem tw_279 : Cond.fieldLink RX5 11 "TightHulls$Tapes" "items" "[[J" ∈ lw_tbl := List.mem_append_right _ (List.mem_append_left _ (List.mem_of_getElem? (i := 206) rfl))
set_option maxRecDepth 100000 in
theorem tw_277 : Cond.classLink RX5 9 "[[J" ∈ lw_tbl := List.mem_append_right _ (List.mem_append_left _ (List.mem_of_getElem? (i := 204) rfl))
set_option maxRecDepth 100000 in
theorem tw_276 : Cond.methodLink RX5 1 objectInit ∈ lw_tbl := List.mem_append_right _ (List.mem_append_left _ (List.mem_of_getElem? (i := 203) rfl))
set_option maxRecDepth 100000 in
theorem dl_wsX8_init_r6 : ∀ w ∈ wsX8_init_r6, w ∈ lw_tbl := (List.forall_mem_cons.mpr ⟨tw_276, (List.forall_mem_cons.mpr ⟨tw_277, (List.forall_mem_cons.mpr ⟨tw_279, (List.forall_mem_cons.mpr ⟨tw_281, (List.forall_mem_cons.mpr ⟨tw_283, (fun _ h => absurd h List.not_mem_nil)⟩)⟩)⟩)⟩)⟩)
set_option maxRecDepth 100000 in
theorem fu_wsX20 : ∀ w ∈ wsX20, w ∈ lw_tbl := (List.forall_mem_cons.mpr ⟨(List.mem_append_right _ (List.mem_append_left _ (List.mem_of_getElem? (i := 102) rfl)) : u_lay RX2 TX2 0 ∈ lw_tbl), (List.forall_mem_cons.mpr ⟨(List.mem_append_right _ (List.mem_append_left _ (List.mem_of_getElem? (i := 104) rfl)) : u_lay RX2 TX2 1 ∈ lw_tbl), (List.forall_mem_cons.mpr ⟨(List.mem_append_right _ (List.mem_append_left _ (List.mem_of_getElem? (i := 106) rfl)) : u_lay RX2 TX2 2 ∈ lw_tbl), (List.forall_mem_cons.mpr ⟨(List.mem_append_right _ (List.mem_append_left _ (List.mem_of_getElem? (i := 108) rfl)) : u_lay RX2 TX2 3 ∈ lw_tbl), (List.forall_mem_cons.mpr ⟨(List.mem_append_right _ (List.mem_append_left _ (List.mem_of_getElem? (i := 110) rfl)) : u_lay RX2 TX2 4 ∈ lw_tbl), (List.forall_mem_cons.mpr ⟨(List.mem_append_right _ (List.mem_append_left _ (List.mem_of_getElem? (i := 112) rfl)) : u_lay RX2 TX2 5 ∈ lw_tbl), (fun _ h => absurd h List.not_mem_nil)⟩)⟩)⟩)⟩)⟩)⟩)
set_option maxRecDepth 100000 in
theorem fu_wsX80 : ∀ w ∈ wsX80, w ∈ lw_tbl := (List.forall_mem_cons.mpr ⟨(List.mem_append_right _ (List.mem_append_left _ (List.mem_of_getElem? (i := 226) rfl)) : u_lay RX8 TX8 0 ∈ lw_tbl), (List.forall_mem_cons.mpr ⟨(List.mem_append_right _ (List.mem_append_left _ (List.mem_of_getElem? (i := 228) rfl)) : u_lay RX8 TX8 1 ∈ lw_tbl), (List.forall_mem_cons.mpr ⟨(List.mem_append_right _ (List.mem_append_left _ (List.mem_of_getElem? (i := 230) rfl)) : u_lay RX8 TX8 2 ∈ lw_tbl), (List.forall_mem_cons.mpr ⟨(List.mem_append_right _ (List.mem_append_left _ (List.mem_of_getElem? (i := 232) rfl)) : u_lay RX8 TX8 3 ∈ lw_tbl), (List.forall_mem_cons.mpr ⟨(List.mem_append_right _ (List.mem_append_left _ (List.mem_of_getElem? (i := 234) rfl)) : u_lay RX8 TX8 4 ∈ lw_tbl), (List.forall_mem_cons.mpr ⟨(List.mem_append_right _ (List.mem_append_left _ (List.mem_of_getElem? (i := 236) rfl)) : u_lay RX8 TX8 5 ∈ lw_tbl), (List.forall_mem_cons.mpr ⟨(List.mem_append_right _ (List.mem_append_left _ (List.mem_of_getElem? (i := 238) rfl)) : u_lay RX8 TX8 6 ∈ lw_tbl), (List.forall_mem_cons.mpr ⟨(List.mem_append_right _ (List.mem_append_right _ (List.mem_append_left _ (List.mem_of_getElem? (i := 0) rfl))) : u_lay RX8 TX8 7 ∈ lw_tbl), (fun _ h => absurd h List.not_mem_nil)⟩)⟩)⟩)⟩)⟩)⟩)⟩)⟩)
set_option maxRecDepth 100000 in
theorem fu_wsX40 : ∀ w ∈ wsX40, w ∈ lw_tbl := (List.forall_mem_cons.mpr ⟨(List.mem_append_right _ (List.mem_append_left _ (List.mem_of_getElem? (i := 59) rfl)) : u_lay RX4 TX4 0 ∈ lw_tbl), (List.forall_mem_cons.mpr ⟨(List.mem_append_right _ (List.mem_append_left _ (List.mem_of_getElem? (i := 61) rfl)) : u_lay RX4 TX4 1 ∈ lw_tbl), (fun _ h => absurd h List.not_mem_nil)⟩)⟩)
set_option maxRecDepth 100000 in
theorem fu_wsX30 : ∀ w ∈ wsX30, w ∈ lw_tbl := (List.forall_mem_cons.mpr ⟨(List.mem_append_right _ (List.mem_append_left _ (List.mem_of_getElem? (i := 133) rfl)) : u_lay RX3 TX3 0 ∈ lw_tbl), (List.forall_mem_cons.mpr ⟨(List.mem_append_right _ (List.mem_append_left _ (List.mem_of_getElem? (i := 135) rfl)) : u_lay RX3 TX3 1 ∈ lw_tbl), (List.forall_mem_cons.mpr ⟨(List.mem_append_right _ (List.mem_append_left _ (List.mem_of_getElem? (i := 137) rfl)) : u_lay RX3 TX3 2 ∈ lw_tbl), (List.forall_mem_cons.mpr ⟨(List.mem_append_right _ (List.mem_append_left _ (List.mem_of_getElem? (i := 139) rfl)) : u_lay RX3 TX3 3 ∈ lw_tbl), (List.forall_mem_cons.mpr ⟨(List.mem_append_right _ (List.mem_append_left _ (List.mem_of_getElem? (i := 141) rfl)) : u_lay RX3 TX3 4 ∈ lw_tbl), (fun _ h => absurd h List.not_mem_nil)⟩)⟩)⟩)⟩)⟩)
set_option maxRecDepth 100000 in
theorem fu_wsX00 : ∀ w ∈ wsX00, w ∈ lw_tbl := (List.forall_mem_cons.mpr ⟨(List.mem_append_right _ (List.mem_append_left _ (List.mem_of_getElem? (i := 161) rfl)) : u_lay RX0 TX0 0 ∈ lw_tbl), (List.forall_mem_cons.mpr ⟨(List.mem_append_right _ (List.mem_append_left _ (List.mem_of_getElem? (i := 163) rfl)) : u_lay RX0 TX0 1 ∈ lw_tbl), (List.forall_mem_cons.mpr ⟨(List.mem_append_right _ (List.mem_append_left _ (List.mem_of_getElem? (i := 165) rfl)) : u_lay RX0 TX0 2 ∈ lw_tbl), (List.forall_mem_cons.mpr ⟨(List.mem_append_right _ (List.mem_append_left _ (List.mem_of_getElem? (i := 167) rfl)) : u_lay RX0 TX0 3 ∈ lw_tbl), (List.forall_mem_cons.mpr ⟨(List.mem_append_right _ (List.mem_append_left _ (List.mem_of_getElem? (i := 169) rfl)) : u_lay RX0 TX0 4 ∈ lw_tbl), (List.forall_mem_cons.mpr ⟨(List.mem_append_right _ (List.mem_append_left _ (List.mem_of_getElem? (i := 171) rfl)) : u_lay RX0 TX0 5 ∈ lw_tbl), (List.forall_mem_cons.mpr ⟨(List.mem_append_right _ (List.mem_append_left _ (List.mem_of_getElem? (i := 173) rfl)) : u_lay RX0 TX0 6 ∈ lw_tbl), (fun _ h => absurd h List.not_mem_nil)⟩)⟩)⟩)⟩)⟩)⟩)⟩)
set_option maxRecDepth 100000 in
theorem fu_wsX60 : ∀ w ∈ wsX60, w ∈ lw_tbl := (List.forall_mem_cons.mpr ⟨(List.mem_append_right _ (List.mem_append_left _ (List.mem_of_getElem? (i := 188) rfl)) : u_lay RX6 TX6 0 ∈ lw_tbl), (List.forall_mem_cons.mpr ⟨(List.mem_append_right _ (List.mem_append_left _ (List.mem_of_getElem? (i := 190) rfl)) : u_lay RX6 TX6 1 ∈ lw_tbl), (List.forall_mem_cons.mpr ⟨(List.mem_append_right _ (List.mem_append_left _ (List.mem_of_getElem? (i := 192) rfl)) : u_lay RX6 TX6 2 ∈ lw_tbl), (List.forall_mem_cons.mpr ⟨(List.mem_append_right _ (List.mem_append_left _ (List.mem_of_getElem? (i := 194) rfl)) : u_lay RX6 TX6 3 ∈ lw_tbl), (fun _ h => absurd h List.not_mem_nil)⟩)⟩)⟩)⟩)
set_option maxRecDepth 100000 in
theorem fu_wsX50 : ∀ w ∈ wsX50, w ∈ lw_tbl := (List.forall_mem_cons.mpr ⟨(List.mem_append_right _ (List.mem_append_left _ (List.mem_of_getElem? (i := 211) rfl)) : u_lay RX5 TX5 0 ∈ lw_tbl), (List.forall_mem_cons.mpr ⟨(List.mem_append_right _ (List.mem_append_left _ (List.mem_of_getElem? (i := 213) rfl)) : u_lay RX5 TX5 1 ∈ lw_tbl), (List.forall_mem_cons.mpr ⟨(List.mem_append_right _ (List.mem_append_left _ (List.mem_of_getElem? (i := 215) rfl)) : u_lay RX5 TX5 2 ∈ lw_tbl), (fun _ h => absurd h List.not_mem_nil)⟩)⟩)⟩)
set_option maxRecDepth 100000 in
theorem fu_wsX10 : ∀ w ∈ wsX10, w ∈ lw_tbl := (List.forall_mem_cons.mpr ⟨(List.mem_append_right _ (List.mem_append_left _ (List.mem_of_getElem? (i := 77) rfl)) : u_lay RX1 TX1 0 ∈ lw_tbl), (List.forall_mem_cons.mpr ⟨(List.mem_append_right _ (List.mem_append_left _ (List.mem_of_getElem? (i := 79) rfl)) : u_lay RX1 TX1 1 ∈ lw_tbl), (List.forall_mem_cons.mpr ⟨(List.mem_append_right _ (List.mem_append_left _ (List.mem_of_getElem? (i := 81) rfl)) : u_lay RX1 TX1 2 ∈ lw_tbl), (fun _ h => absurd h List.not_mem_nil)⟩)⟩)⟩)
set_option maxRecDepth 100000 in
theorem dl_wsX8_init : ∀ w ∈ wsX8_init, w ∈ lw_tbl := (List.forall_mem_cons.mpr ⟨tw_91, (List.forall_mem_append.mpr ⟨(List.forall_mem_append.mpr ⟨(List.forall_mem_append.mpr ⟨(List.forall_mem_append.mpr ⟨(List.forall_mem_append.mpr ⟨(List.forall_mem_append.mpr ⟨(List.forall_mem_append.mpr ⟨(List.forall_mem_append.mpr ⟨(List.forall_mem_append.mpr ⟨dl_wsX8_init_r1, (List.forall_mem_append.mpr ⟨dl_wsX8_init_r2, (List.forall_mem_append.mpr ⟨dl_wsX8_init_r3, (List.forall_mem_append.mpr ⟨dl_wsX8_init_r4, (List.forall_mem_append.mpr ⟨dl_wsX8_init_r5, dl_wsX8_init_r6⟩)⟩)⟩)⟩)⟩), fu_wsX20⟩), fu_wsX80⟩), fu_wsX40⟩), fu_wsX30⟩), fu_wsX00⟩), fu_wsX60⟩), fu_wsX50⟩), fu_wsX10⟩)⟩)
set_option maxRecDepth 100000 in
theorem tw_89 : Cond.methodLink RL 9 yX8_init ∈ lw_tbl := List.mem_append_right _ (List.mem_append_left _ (List.mem_of_getElem? (i := 16) rfl))
set_option maxRecDepth 100000 in
theorem tw_90 : Cond.instanceMethod yX8_init ∈ lw_tbl := List.mem_append_right _ (List.mem_append_left _ (List.mem_of_getElem? (i := 17) rfl))
set_option maxRecDepth 100000 in
theorem tw_905 : Cond.code yX9_init cX9_init 1 none ∈ lw_tbl := List.mem_append_right _ (List.mem_append_right _ (List.mem_append_right _ (List.mem_append_right _ (List.mem_append_left _ (List.mem_of_getElem? (i := 112) rfl)))))
set_option maxRecDepth 100000 in
theorem tw_929 : Cond.fieldLink RX9 68 "TightHullsModel" "order" "[I" ∈ lw_tbl := List.mem_append_right _ (List.mem_append_right _ (List.mem_append_right _ (List.mem_append_right _ (List.mem_append_left _ (List.mem_of_getElem? (i := 136) rfl)))))
set_option maxRecDepth 100000 in
theorem tw_928 : Cond.fieldLink RX9 65 "TightHullsModel" "aside" "[I" ∈ lw_tbl := List.mem_append_right _ (List.mem_append_right _ (List.mem_append_right _ (List.mem_append_right _ (List.mem_append_left _ (List.mem_of_getElem? (i := 135) rfl)))))
set_option maxRecDepth 100000 in
theorem tw_927 : Cond.fieldLink RX9 62 "TightHullsModel" "kept" "[I" ∈ lw_tbl := List.mem_append_right _ (List.mem_append_right _ (List.mem_append_right _ (List.mem_append_right _ (List.mem_append_left _ (List.mem_of_getElem? (i := 134) rfl)))))
set_option maxRecDepth 100000 in
theorem tw_926 : Cond.fieldLink RX9 59 "TightHullsModel" "between" "[J" ∈ lw_tbl := List.mem_append_right _ (List.mem_append_right _ (List.mem_append_right _ (List.mem_append_right _ (List.mem_append_left _ (List.mem_of_getElem? (i := 133) rfl)))))
set_option maxRecDepth 100000 in
theorem tw_925 : Cond.fieldLink RX9 55 "TightHullsModel" "cell" "[J" ∈ lw_tbl := List.mem_append_right _ (List.mem_append_right _ (List.mem_append_right _ (List.mem_append_right _ (List.mem_append_left _ (List.mem_of_getElem? (i := 132) rfl)))))
set_option maxRecDepth 100000 in
theorem tw_924 : Cond.fieldLink RX9 52 "TightHullsModel" "size" "[I" ∈ lw_tbl := List.mem_append_right _ (List.mem_append_right _ (List.mem_append_right _ (List.mem_append_right _ (List.mem_append_left _ (List.mem_of_getElem? (i := 131) rfl)))))
set_option maxRecDepth 100000 in
theorem tw_923 : Cond.fieldLink RX9 49 "TightHullsModel" "sort" "[I" ∈ lw_tbl := List.mem_append_right _ (List.mem_append_right _ (List.mem_append_right _ (List.mem_append_right _ (List.mem_append_left _ (List.mem_of_getElem? (i := 130) rfl)))))
set_option maxRecDepth 100000 in
theorem tw_921 : Cond.fieldLink RX9 46 "TightHullsModel" "text" "[I" ∈ lw_tbl := List.mem_append_right _ (List.mem_append_right _ (List.mem_append_right _ (List.mem_append_right _ (List.mem_append_left _ (List.mem_of_getElem? (i := 128) rfl)))))
set_option maxRecDepth 100000 in
theorem tw_920 : Cond.fieldLink RX9 43 "TightHullsModel" "bookFar" "[I" ∈ lw_tbl := List.mem_append_right _ (List.mem_append_right _ (List.mem_append_right _ (List.mem_append_right _ (List.mem_append_left _ (List.mem_of_getElem? (i := 127) rfl)))))
set_option maxRecDepth 100000 in
theorem tw_919 : Cond.fieldLink RX9 40 "TightHullsModel" "bookOther" "[I" ∈ lw_tbl := List.mem_append_right _ (List.mem_append_right _ (List.mem_append_right _ (List.mem_append_right _ (List.mem_append_left _ (List.mem_of_getElem? (i := 126) rfl)))))
set_option maxRecDepth 100000 in
theorem tw_918 : Cond.fieldLink RX9 37 "TightHullsModel" "bookOne" "[I" ∈ lw_tbl := List.mem_append_right _ (List.mem_append_right _ (List.mem_append_right _ (List.mem_append_right _ (List.mem_append_left _ (List.mem_of_getElem? (i := 125) rfl)))))
set_option maxRecDepth 100000 in
theorem tw_916 : Cond.fieldLink RX9 34 "TightHullsModel" "eventBy" "[I" ∈ lw_tbl := List.mem_append_right _ (List.mem_append_right _ (List.mem_append_right _ (List.mem_append_right _ (List.mem_append_left _ (List.mem_of_getElem? (i := 123) rfl)))))
set_option maxRecDepth 100000 in
theorem tw_915 : Cond.fieldLink RX9 31 "TightHullsModel" "eventWhat" "[I" ∈ lw_tbl := List.mem_append_right _ (List.mem_append_right _ (List.mem_append_right _ (List.mem_append_right _ (List.mem_append_left _ (List.mem_of_getElem? (i := 122) rfl)))))
set_option maxRecDepth 100000 in
theorem tw_913 : Cond.fieldLink RX9 28 "TightHullsModel" "seenWeight" "[I" ∈ lw_tbl := List.mem_append_right _ (List.mem_append_right _ (List.mem_append_right _ (List.mem_append_right _ (List.mem_append_left _ (List.mem_of_getElem? (i := 120) rfl)))))
set_option maxRecDepth 100000 in
theorem tw_912 : Cond.fieldLink RX9 25 "TightHullsModel" "seenSplit" "[I" ∈ lw_tbl := List.mem_append_right _ (List.mem_append_right _ (List.mem_append_right _ (List.mem_append_right _ (List.mem_append_left _ (List.mem_of_getElem? (i := 119) rfl)))))
set_option maxRecDepth 100000 in
theorem tw_910 : Cond.fieldLink RX9 22 "TightHullsModel" "becomes" "[I" ∈ lw_tbl := List.mem_append_right _ (List.mem_append_right _ (List.mem_append_right _ (List.mem_append_right _ (List.mem_append_left _ (List.mem_of_getElem? (i := 117) rfl)))))
set_option maxRecDepth 100000 in
theorem tw_909 : Cond.fieldLink RX9 19 "TightHullsModel" "number" "[I" ∈ lw_tbl := List.mem_append_right _ (List.mem_append_right _ (List.mem_append_right _ (List.mem_append_right _ (List.mem_append_left _ (List.mem_of_getElem? (i := 116) rfl)))))
set_option maxRecDepth 100000 in
theorem tw_908 : Cond.fieldLink RX9 15 "TightHullsModel" "far" "[I" ∈ lw_tbl := List.mem_append_right _ (List.mem_append_right _ (List.mem_append_right _ (List.mem_append_right _ (List.mem_append_left _ (List.mem_of_getElem? (i := 115) rfl)))))
set_option maxRecDepth 100000 in
theorem tw_907 : Cond.fieldLink RX9 9 "TightHullsModel" "points" "I" ∈ lw_tbl := List.mem_append_right _ (List.mem_append_right _ (List.mem_append_right _ (List.mem_append_right _ (List.mem_append_left _ (List.mem_of_getElem? (i := 114) rfl)))))
set_option maxRecDepth 100000 in
theorem tw_906 : Cond.methodLink RX9 3 objectInit ∈ lw_tbl := List.mem_append_right _ (List.mem_append_right _ (List.mem_append_right _ (List.mem_append_right _ (List.mem_append_left _ (List.mem_of_getElem? (i := 113) rfl)))))
set_option maxRecDepth 100000 in
theorem dl_wsX9_init_r1 : ∀ w ∈ wsX9_init_r1, w ∈ lw_tbl := (List.forall_mem_cons.mpr ⟨tw_906, (List.forall_mem_cons.mpr ⟨tw_93, (List.forall_mem_cons.mpr ⟨tw_94, (List.forall_mem_cons.mpr ⟨tw_907, (List.forall_mem_cons.mpr ⟨tw_137, (List.forall_mem_cons.mpr ⟨tw_908, (List.forall_mem_cons.mpr ⟨tw_909, (List.forall_mem_cons.mpr ⟨tw_910, (List.forall_mem_cons.mpr ⟨tw_912, (List.forall_mem_cons.mpr ⟨tw_913, (List.forall_mem_cons.mpr ⟨tw_915, (List.forall_mem_cons.mpr ⟨tw_916, (List.forall_mem_cons.mpr ⟨tw_918, (List.forall_mem_cons.mpr ⟨tw_919, (List.forall_mem_cons.mpr ⟨tw_920, (List.forall_mem_cons.mpr ⟨tw_921, (List.forall_mem_cons.mpr ⟨tw_923, (List.forall_mem_cons.mpr ⟨tw_924, (List.forall_mem_cons.mpr ⟨tw_249, (List.forall_mem_cons.mpr ⟨tw_925, (List.forall_mem_cons.mpr ⟨tw_926, (List.forall_mem_cons.mpr ⟨tw_927, (List.forall_mem_cons.mpr ⟨tw_928, (List.forall_mem_cons.mpr ⟨tw_929, (fun _ h => absurd h List.not_mem_nil)⟩)⟩)⟩)⟩)⟩)⟩)⟩)⟩)⟩)⟩)⟩)⟩)⟩)⟩)⟩)⟩)⟩)⟩)⟩)⟩)⟩)⟩)⟩)⟩)
set_option maxRecDepth 100000 in
theorem tw_941 : Cond.fieldLink RX9 92 "TightHullsModel" "imaged" "[I" ∈ lw_tbl := List.mem_append_right _ (List.mem_append_right _ (List.mem_append_right _ (List.mem_append_right _ (List.mem_append_left _ (List.mem_of_getElem? (i := 148) rfl)))))
set_option maxRecDepth 100000 in
theorem tw_939 : Cond.fieldLink RX9 89 "TightHullsModel" "toldNumber" "[I" ∈ lw_tbl := List.mem_append_right _ (List.mem_append_right _ (List.mem_append_right _ (List.mem_append_right _ (List.mem_append_left _ (List.mem_of_getElem? (i := 146) rfl)))))
set_option maxRecDepth 100000 in
theorem tw_938 : Cond.fieldLink RX9 86 "TightHullsModel" "toldBy" "[I" ∈ lw_tbl := List.mem_append_right _ (List.mem_append_right _ (List.mem_append_right _ (List.mem_append_right _ (List.mem_append_left _ (List.mem_of_getElem? (i := 145) rfl)))))
set_option maxRecDepth 100000 in
theorem tw_937 : Cond.fieldLink RX9 83 "TightHullsModel" "told" "[I" ∈ lw_tbl := List.mem_append_right _ (List.mem_append_right _ (List.mem_append_right _ (List.mem_append_right _ (List.mem_append_left _ (List.mem_of_getElem? (i := 144) rfl)))))
set_option maxRecDepth 100000 in
theorem tw_936 : Cond.fieldLink RX9 80 "TightHullsModel" "clause" "[I" ∈ lw_tbl := List.mem_append_right _ (List.mem_append_right _ (List.mem_append_right _ (List.mem_append_right _ (List.mem_append_left _ (List.mem_of_getElem? (i := 143) rfl)))))
set_option maxRecDepth 100000 in
theorem tw_933 : Cond.fieldLink RX9 77 "TightHullsModel" "tried" "[I" ∈ lw_tbl := List.mem_append_right _ (List.mem_append_right _ (List.mem_append_right _ (List.mem_append_right _ (List.mem_append_left _ (List.mem_of_getElem? (i := 140) rfl)))))
set_option maxRecDepth 100000 in
theorem tw_932 : Cond.fieldLink RX9 74 "TightHullsModel" "named" "[I" ∈ lw_tbl := List.mem_append_right _ (List.mem_append_right _ (List.mem_append_right _ (List.mem_append_right _ (List.mem_append_left _ (List.mem_of_getElem? (i := 139) rfl)))))
set_option maxRecDepth 100000 in
theorem tw_931 : Cond.fieldLink RX9 71 "TightHullsModel" "corner" "[I" ∈ lw_tbl := List.mem_append_right _ (List.mem_append_right _ (List.mem_append_right _ (List.mem_append_right _ (List.mem_append_left _ (List.mem_of_getElem? (i := 138) rfl)))))
set_option maxRecDepth 100000 in
theorem dl_wsX9_init_r2 : ∀ w ∈ wsX9_init_r2, w ∈ lw_tbl := (List.forall_mem_cons.mpr ⟨tw_931, (List.forall_mem_cons.mpr ⟨tw_932, (List.forall_mem_cons.mpr ⟨tw_933, (List.forall_mem_cons.mpr ⟨tw_936, (List.forall_mem_cons.mpr ⟨tw_937, (List.forall_mem_cons.mpr ⟨tw_938, (List.forall_mem_cons.mpr ⟨tw_939, (List.forall_mem_cons.mpr ⟨tw_941, (fun _ h => absurd h List.not_mem_nil)⟩)⟩)⟩)⟩)⟩)⟩)⟩)⟩)
set_option maxRecDepth 100000 in
theorem fu_wsX90 : ∀ w ∈ wsX90, w ∈ lw_tbl := (List.forall_mem_cons.mpr ⟨(List.mem_append_right _ (List.mem_append_right _ (List.mem_append_right _ (List.mem_append_right _ (List.mem_append_left _ (List.mem_of_getElem? (i := 149) rfl))))) : u_lay RX9 TX9 0 ∈ lw_tbl), (List.forall_mem_cons.mpr ⟨(List.mem_append_right _ (List.mem_append_right _ (List.mem_append_right _ (List.mem_append_right _ (List.mem_append_left _ (List.mem_of_getElem? (i := 151) rfl))))) : u_lay RX9 TX9 1 ∈ lw_tbl), (List.forall_mem_cons.mpr ⟨(List.mem_append_right _ (List.mem_append_right _ (List.mem_append_right _ (List.mem_append_right _ (List.mem_append_left _ (List.mem_of_getElem? (i := 153) rfl))))) : u_lay RX9 TX9 2 ∈ lw_tbl), (List.forall_mem_cons.mpr ⟨(List.mem_append_right _ (List.mem_append_right _ (List.mem_append_right _ (List.mem_append_right _ (List.mem_append_left _ (List.mem_of_getElem? (i := 155) rfl))))) : u_lay RX9 TX9 3 ∈ lw_tbl), (List.forall_mem_cons.mpr ⟨(List.mem_append_right _ (List.mem_append_right _ (List.mem_append_right _ (List.mem_append_right _ (List.mem_append_left _ (List.mem_of_getElem? (i := 157) rfl))))) : u_lay RX9 TX9 4 ∈ lw_tbl), (List.forall_mem_cons.mpr ⟨(List.mem_append_right _ (List.mem_append_right _ (List.mem_append_right _ (List.mem_append_right _ (List.mem_append_left _ (List.mem_of_getElem? (i := 159) rfl))))) : u_lay RX9 TX9 5 ∈ lw_tbl), (List.forall_mem_cons.mpr ⟨(List.mem_append_right _ (List.mem_append_right _ (List.mem_append_right _ (List.mem_append_right _ (List.mem_append_left _ (List.mem_of_getElem? (i := 161) rfl))))) : u_lay RX9 TX9 6 ∈ lw_tbl), (List.forall_mem_cons.mpr ⟨(List.mem_append_right _ (List.mem_append_right _ (List.mem_append_right _ (List.mem_append_right _ (List.mem_append_left _ (List.mem_of_getElem? (i := 163) rfl))))) : u_lay RX9 TX9 7 ∈ lw_tbl), (List.forall_mem_cons.mpr ⟨(List.mem_append_right _ (List.mem_append_right _ (List.mem_append_right _ (List.mem_append_right _ (List.mem_append_left _ (List.mem_of_getElem? (i := 165) rfl))))) : u_lay RX9 TX9 8 ∈ lw_tbl), (List.forall_mem_cons.mpr ⟨(List.mem_append_right _ (List.mem_append_right _ (List.mem_append_right _ (List.mem_append_right _ (List.mem_append_left _ (List.mem_of_getElem? (i := 167) rfl))))) : u_lay RX9 TX9 9 ∈ lw_tbl), (List.forall_mem_cons.mpr ⟨(List.mem_append_right _ (List.mem_append_right _ (List.mem_append_right _ (List.mem_append_right _ (List.mem_append_left _ (List.mem_of_getElem? (i := 169) rfl))))) : u_lay RX9 TX9 10 ∈ lw_tbl), (List.forall_mem_cons.mpr ⟨(List.mem_append_right _ (List.mem_append_right _ (List.mem_append_right _ (List.mem_append_right _ (List.mem_append_left _ (List.mem_of_getElem? (i := 171) rfl))))) : u_lay RX9 TX9 11 ∈ lw_tbl), (List.forall_mem_cons.mpr ⟨(List.mem_append_right _ (List.mem_append_right _ (List.mem_append_right _ (List.mem_append_right _ (List.mem_append_left _ (List.mem_of_getElem? (i := 173) rfl))))) : u_lay RX9 TX9 12 ∈ lw_tbl), (List.forall_mem_cons.mpr ⟨(List.mem_append_right _ (List.mem_append_right _ (List.mem_append_right _ (List.mem_append_right _ (List.mem_append_left _ (List.mem_of_getElem? (i := 175) rfl))))) : u_lay RX9 TX9 13 ∈ lw_tbl), (List.forall_mem_cons.mpr ⟨(List.mem_append_right _ (List.mem_append_right _ (List.mem_append_right _ (List.mem_append_right _ (List.mem_append_left _ (List.mem_of_getElem? (i := 177) rfl))))) : u_lay RX9 TX9 14 ∈ lw_tbl), (List.forall_mem_cons.mpr ⟨(List.mem_append_right _ (List.mem_append_right _ (List.mem_append_right _ (List.mem_append_right _ (List.mem_append_left _ (List.mem_of_getElem? (i := 179) rfl))))) : u_lay RX9 TX9 15 ∈ lw_tbl), (List.forall_mem_cons.mpr ⟨(List.mem_append_right _ (List.mem_append_right _ (List.mem_append_right _ (List.mem_append_right _ (List.mem_append_left _ (List.mem_of_getElem? (i := 181) rfl))))) : u_lay RX9 TX9 16 ∈ lw_tbl), (List.forall_mem_cons.mpr ⟨(List.mem_append_right _ (List.mem_append_right _ (List.mem_append_right _ (List.mem_append_right _ (List.mem_append_left _ (List.mem_of_getElem? (i := 183) rfl))))) : u_lay RX9 TX9 17 ∈ lw_tbl), (List.forall_mem_cons.mpr ⟨(List.mem_append_right _ (List.mem_append_right _ (List.mem_append_right _ (List.mem_append_right _ (List.mem_append_left _ (List.mem_of_getElem? (i := 185) rfl))))) : u_lay RX9 TX9 18 ∈ lw_tbl), (List.forall_mem_cons.mpr ⟨(List.mem_append_right _ (List.mem_append_right _ (List.mem_append_right _ (List.mem_append_right _ (List.mem_append_left _ (List.mem_of_getElem? (i := 187) rfl))))) : u_lay RX9 TX9 19 ∈ lw_tbl), (List.forall_mem_cons.mpr ⟨(List.mem_append_right _ (List.mem_append_right _ (List.mem_append_right _ (List.mem_append_right _ (List.mem_append_left _ (List.mem_of_getElem? (i := 189) rfl))))) : u_lay RX9 TX9 20 ∈ lw_tbl), (List.forall_mem_cons.mpr ⟨(List.mem_append_right _ (List.mem_append_right _ (List.mem_append_right _ (List.mem_append_right _ (List.mem_append_left _ (List.mem_of_getElem? (i := 191) rfl))))) : u_lay RX9 TX9 21 ∈ lw_tbl), (List.forall_mem_cons.mpr ⟨(List.mem_append_right _ (List.mem_append_right _ (List.mem_append_right _ (List.mem_append_right _ (List.mem_append_left _ (List.mem_of_getElem? (i := 193) rfl))))) : u_lay RX9 TX9 22 ∈ lw_tbl), (List.forall_mem_cons.mpr ⟨(List.mem_append_right _ (List.mem_append_right _ (List.mem_append_right _ (List.mem_append_right _ (List.mem_append_left _ (List.mem_of_getElem? (i := 195) rfl))))) : u_lay RX9 TX9 23 ∈ lw_tbl), (List.forall_mem_cons.mpr ⟨(List.mem_append_right _ (List.mem_append_right _ (List.mem_append_right _ (List.mem_append_right _ (List.mem_append_left _ (List.mem_of_getElem? (i := 197) rfl))))) : u_lay RX9 TX9 24 ∈ lw_tbl), (List.forall_mem_cons.mpr ⟨(List.mem_append_right _ (List.mem_append_right _ (List.mem_append_right _ (List.mem_append_right _ (List.mem_append_left _ (List.mem_of_getElem? (i := 199) rfl))))) : u_lay RX9 TX9 25 ∈ lw_tbl), (List.forall_mem_cons.mpr ⟨(List.mem_append_right _ (List.mem_append_right _ (List.mem_append_right _ (List.mem_append_right _ (List.mem_append_left _ (List.mem_of_getElem? (i := 201) rfl))))) : u_lay RX9 TX9 26 ∈ lw_tbl), (List.forall_mem_cons.mpr ⟨(List.mem_append_right _ (List.mem_append_right _ (List.mem_append_right _ (List.mem_append_right _ (List.mem_append_left _ (List.mem_of_getElem? (i := 203) rfl))))) : u_lay RX9 TX9 27 ∈ lw_tbl), (List.forall_mem_cons.mpr ⟨(List.mem_append_right _ (List.mem_append_right _ (List.mem_append_right _ (List.mem_append_right _ (List.mem_append_left _ (List.mem_of_getElem? (i := 205) rfl))))) : u_lay RX9 TX9 28 ∈ lw_tbl), (List.forall_mem_cons.mpr ⟨(List.mem_append_right _ (List.mem_append_right _ (List.mem_append_right _ (List.mem_append_right _ (List.mem_append_left _ (List.mem_of_getElem? (i := 207) rfl))))) : u_lay RX9 TX9 29 ∈ lw_tbl), (List.forall_mem_cons.mpr ⟨(List.mem_append_right _ (List.mem_append_right _ (List.mem_append_right _ (List.mem_append_right _ (List.mem_append_left _ (List.mem_of_getElem? (i := 209) rfl))))) : u_lay RX9 TX9 30 ∈ lw_tbl), (List.forall_mem_cons.mpr ⟨(List.mem_append_right _ (List.mem_append_right _ (List.mem_append_right _ (List.mem_append_right _ (List.mem_append_left _ (List.mem_of_getElem? (i := 211) rfl))))) : u_lay RX9 TX9 31 ∈ lw_tbl), (List.forall_mem_cons.mpr ⟨(List.mem_append_right _ (List.mem_append_right _ (List.mem_append_right _ (List.mem_append_right _ (List.mem_append_left _ (List.mem_of_getElem? (i := 213) rfl))))) : u_lay RX9 TX9 32 ∈ lw_tbl), (List.forall_mem_cons.mpr ⟨(List.mem_append_right _ (List.mem_append_right _ (List.mem_append_right _ (List.mem_append_right _ (List.mem_append_left _ (List.mem_of_getElem? (i := 215) rfl))))) : u_lay RX9 TX9 33 ∈ lw_tbl), (List.forall_mem_cons.mpr ⟨(List.mem_append_right _ (List.mem_append_right _ (List.mem_append_right _ (List.mem_append_right _ (List.mem_append_left _ (List.mem_of_getElem? (i := 217) rfl))))) : u_lay RX9 TX9 34 ∈ lw_tbl), (fun _ h => absurd h List.not_mem_nil)⟩)⟩)⟩)⟩)⟩)⟩)⟩)⟩)⟩)⟩)⟩)⟩)⟩)⟩)⟩)⟩)⟩)⟩)⟩)⟩)⟩)⟩)⟩)⟩)⟩)⟩)⟩)⟩)⟩)⟩)⟩)⟩)⟩)⟩)⟩)
set_option maxRecDepth 100000 in
theorem dl_wsX9_init : ∀ w ∈ wsX9_init, w ∈ lw_tbl := (List.forall_mem_cons.mpr ⟨tw_905, (List.forall_mem_append.mpr ⟨(List.forall_mem_append.mpr ⟨dl_wsX9_init_r1, dl_wsX9_init_r2⟩), fu_wsX90⟩)⟩)
set_option maxRecDepth 100000 in
theorem tw_903 : Cond.methodLink RL 12 yX9_init ∈ lw_tbl := List.mem_append_right _ (List.mem_append_right _ (List.mem_append_right _ (List.mem_append_right _ (List.mem_append_left _ (List.mem_of_getElem? (i := 110) rfl)))))
set_option maxRecDepth 100000 in
theorem tw_904 : Cond.instanceMethod yX9_init ∈ lw_tbl := List.mem_append_right _ (List.mem_append_right _ (List.mem_append_right _ (List.mem_append_right _ (List.mem_append_left _ (List.mem_of_getElem? (i := 111) rfl)))))
set_option maxRecDepth 100000 in
theorem tw_319 : Cond.code yX8_points cX8_points 3 (some .int) ∈ lw_tbl := List.mem_append_right _ (List.mem_append_right _ (List.mem_append_left _ (List.mem_of_getElem? (i := 6) rfl)))
set_option maxRecDepth 100000 in
theorem tw_320 : Cond.methodLink RX8 67 yX2_begin ∈ lw_tbl := List.mem_append_right _ (List.mem_append_right _ (List.mem_append_left _ (List.mem_of_getElem? (i := 7) rfl)))
set_option maxRecDepth 100000 in
theorem tw_125 : Cond.fieldLink RX8 63 "TightHulls$Table" "size" "I" ∈ lw_tbl := List.mem_append_right _ (List.mem_append_left _ (List.mem_of_getElem? (i := 52) rfl))
set_option maxRecDepth 100000 in
theorem tw_163 : Cond.fieldLink RX8 60 "TightHulls$Setup" "table" "LTightHulls$Table;" ∈ lw_tbl := List.mem_append_right _ (List.mem_append_left _ (List.mem_of_getElem? (i := 90) rfl))
set_option maxRecDepth 100000 in
theorem dl_wsX8_points_r1 : ∀ w ∈ wsX8_points_r1, w ∈ lw_tbl := (List.forall_mem_cons.mpr ⟨tw_291, (List.forall_mem_cons.mpr ⟨tw_163, (List.forall_mem_cons.mpr ⟨tw_125, (List.forall_mem_cons.mpr ⟨tw_320, (List.forall_mem_cons.mpr ⟨tw_158, (List.forall_mem_cons.mpr ⟨tw_159, (List.forall_mem_cons.mpr ⟨tw_75, (List.forall_mem_cons.mpr ⟨tw_160, (List.forall_mem_cons.mpr ⟨tw_162, (List.forall_mem_cons.mpr ⟨tw_165, (List.forall_mem_cons.mpr ⟨tw_167, (List.forall_mem_cons.mpr ⟨tw_161, (List.forall_mem_cons.mpr ⟨tw_108, (List.forall_mem_cons.mpr ⟨tw_109, (List.forall_mem_cons.mpr ⟨tw_76, (List.forall_mem_cons.mpr ⟨tw_110, (List.forall_mem_cons.mpr ⟨tw_111, (List.forall_mem_cons.mpr ⟨tw_112, (List.forall_mem_cons.mpr ⟨tw_77, (List.forall_mem_cons.mpr ⟨tw_113, (List.forall_mem_cons.mpr ⟨tw_114, (List.forall_mem_cons.mpr ⟨tw_115, (List.forall_mem_cons.mpr ⟨tw_116, (List.forall_mem_cons.mpr ⟨tw_126, (fun _ h => absurd h List.not_mem_nil)⟩)⟩)⟩)⟩)⟩)⟩)⟩)⟩)⟩)⟩)⟩)⟩)⟩)⟩)⟩)⟩)⟩)⟩)⟩)⟩)⟩)⟩)⟩)⟩)
set_option maxRecDepth 100000 in
theorem dl_wsX8_points_r2 : ∀ w ∈ wsX8_points_r2, w ∈ lw_tbl := (List.forall_mem_cons.mpr ⟨tw_117, (List.forall_mem_cons.mpr ⟨tw_118, (List.forall_mem_cons.mpr ⟨tw_119, (List.forall_mem_cons.mpr ⟨tw_120, (List.forall_mem_cons.mpr ⟨tw_131, (List.forall_mem_cons.mpr ⟨tw_121, (List.forall_mem_cons.mpr ⟨tw_122, (List.forall_mem_cons.mpr ⟨tw_123, (List.forall_mem_cons.mpr ⟨tw_124, (fun _ h => absurd h List.not_mem_nil)⟩)⟩)⟩)⟩)⟩)⟩)⟩)⟩)⟩)
set_option maxRecDepth 100000 in
theorem dl_wsX8_points : ∀ w ∈ wsX8_points, w ∈ lw_tbl := (List.forall_mem_cons.mpr ⟨tw_319, (List.forall_mem_append.mpr ⟨(List.forall_mem_append.mpr ⟨(List.forall_mem_append.mpr ⟨(List.forall_mem_append.mpr ⟨dl_wsX8_points_r1, dl_wsX8_points_r2⟩), fu_wsX80⟩), fu_wsX20⟩), fu_wsX40⟩)⟩)
set_option maxRecDepth 100000 in
theorem tw_74 : Cond.initialized RX8 ∈ lw_tbl := List.mem_append_right _ (List.mem_append_left _ (List.mem_of_getElem? (i := 1) rfl))
set_option maxRecDepth 100000 in
theorem tw_318 : Cond.selects RX8 yX8_points yX8_points ∈ lw_tbl := List.mem_append_right _ (List.mem_append_right _ (List.mem_append_left _ (List.mem_of_getElem? (i := 5) rfl)))
set_option maxRecDepth 100000 in
theorem tw_317 : Cond.instanceMethod yX8_points ∈ lw_tbl := List.mem_append_right _ (List.mem_append_right _ (List.mem_append_left _ (List.mem_of_getElem? (i := 4) rfl)))
set_option maxRecDepth 100000 in
theorem tw_316 : Cond.methodLink RL 13 yX8_points ∈ lw_tbl := List.mem_append_right _ (List.mem_append_right _ (List.mem_append_left _ (List.mem_of_getElem? (i := 3) rfl)))
set_option maxRecDepth 100000 in
theorem tw_1016 : Cond.code yX9_points cX9_points 5 (some .int) ∈ lw_tbl := List.mem_append_right _ (List.mem_append_right _ (List.mem_append_right _ (List.mem_append_right _ (List.mem_append_left _ (List.mem_of_getElem? (i := 223) rfl)))))
set_option maxRecDepth 100000 in
theorem tw_1023 : Cond.code yX9_lays cX9_lays 4 none ∈ lw_tbl := List.mem_append_right _ (List.mem_append_right _ (List.mem_append_right _ (List.mem_append_right _ (List.mem_append_left _ (List.mem_of_getElem? (i := 230) rfl)))))
set_option maxRecDepth 100000 in
theorem tw_25 : Cond.selects RX9 yX9_lays yX9_lays ∈ lw_tbl := List.mem_append_left _ (List.mem_of_getElem? (i := 25) rfl)
set_option maxRecDepth 100000 in
theorem tw_1022 : Cond.instanceMethod yX9_lays ∈ lw_tbl := List.mem_append_right _ (List.mem_append_right _ (List.mem_append_right _ (List.mem_append_right _ (List.mem_append_left _ (List.mem_of_getElem? (i := 229) rfl)))))
set_option maxRecDepth 100000 in
theorem tw_1020 : Cond.methodLink RX9 103 yX9_lays ∈ lw_tbl := List.mem_append_right _ (List.mem_append_right _ (List.mem_append_right _ (List.mem_append_right _ (List.mem_append_left _ (List.mem_of_getElem? (i := 227) rfl)))))
set_option maxRecDepth 100000 in
theorem tw_1019 : Cond.code yX9_in cX9_in 3 (some .boolean) ∈ lw_tbl := List.mem_append_right _ (List.mem_append_right _ (List.mem_append_right _ (List.mem_append_right _ (List.mem_append_left _ (List.mem_of_getElem? (i := 226) rfl)))))
set_option maxRecDepth 100000 in
theorem tw_83 : Cond.initialized RX9 ∈ lw_tbl := List.mem_append_right _ (List.mem_append_left _ (List.mem_of_getElem? (i := 10) rfl))
set_option maxRecDepth 100000 in
theorem tw_1018 : Cond.static yX9_in ∈ lw_tbl := List.mem_append_right _ (List.mem_append_right _ (List.mem_append_right _ (List.mem_append_right _ (List.mem_append_left _ (List.mem_of_getElem? (i := 225) rfl)))))
set_option maxRecDepth 100000 in
theorem tw_1017 : Cond.methodLink RX9 95 yX9_in ∈ lw_tbl := List.mem_append_right _ (List.mem_append_right _ (List.mem_append_right _ (List.mem_append_right _ (List.mem_append_left _ (List.mem_of_getElem? (i := 224) rfl)))))
set_option maxRecDepth 100000 in
theorem dl_wsX9_points : ∀ w ∈ wsX9_points, w ∈ lw_tbl := (List.forall_mem_cons.mpr ⟨tw_1016, (List.forall_mem_append.mpr ⟨(List.forall_mem_cons.mpr ⟨tw_907, (List.forall_mem_cons.mpr ⟨tw_909, (List.forall_mem_cons.mpr ⟨tw_910, (List.forall_mem_cons.mpr ⟨tw_1017, (List.forall_mem_cons.mpr ⟨tw_1018, (List.forall_mem_cons.mpr ⟨tw_83, (List.forall_mem_cons.mpr ⟨tw_1019, (List.forall_mem_cons.mpr ⟨tw_1020, (List.forall_mem_cons.mpr ⟨tw_1022, (List.forall_mem_cons.mpr ⟨tw_25, (List.forall_mem_cons.mpr ⟨tw_1023, (List.forall_mem_cons.mpr ⟨tw_908, (fun _ h => absurd h List.not_mem_nil)⟩)⟩)⟩)⟩)⟩)⟩)⟩)⟩)⟩)⟩)⟩)⟩), fu_wsX90⟩)⟩)
set_option maxRecDepth 100000 in
theorem tw_1015 : Cond.selects RX9 yX9_points yX9_points ∈ lw_tbl := List.mem_append_right _ (List.mem_append_right _ (List.mem_append_right _ (List.mem_append_right _ (List.mem_append_left _ (List.mem_of_getElem? (i := 222) rfl)))))
set_option maxRecDepth 100000 in
theorem tw_1014 : Cond.instanceMethod yX9_points ∈ lw_tbl := List.mem_append_right _ (List.mem_append_right _ (List.mem_append_right _ (List.mem_append_right _ (List.mem_append_left _ (List.mem_of_getElem? (i := 221) rfl)))))
set_option maxRecDepth 100000 in
theorem tw_1013 : Cond.methodLink RL 17 yX9_points ∈ lw_tbl := List.mem_append_right _ (List.mem_append_right _ (List.mem_append_right _ (List.mem_append_right _ (List.mem_append_left _ (List.mem_of_getElem? (i := 220) rfl)))))
set_option maxRecDepth 100000 in
theorem tw_324 : Cond.code yX8_set cX8_set 5 (some .int) ∈ lw_tbl := List.mem_append_right _ (List.mem_append_right _ (List.mem_append_left _ (List.mem_of_getElem? (i := 11) rfl)))
set_option maxRecDepth 100000 in
theorem tw_335 : Cond.methodLink RX2 64 yX4_put ∈ lw_tbl := List.mem_append_right _ (List.mem_append_right _ (List.mem_append_left _ (List.mem_of_getElem? (i := 22) rfl)))
set_option maxRecDepth 100000 in
theorem tw_334 : Cond.methodLink RX2 60 yX4_areTwo ∈ lw_tbl := List.mem_append_right _ (List.mem_append_right _ (List.mem_append_left _ (List.mem_of_getElem? (i := 21) rfl)))
set_option maxRecDepth 100000 in
theorem tw_333 : Cond.code yX2_place cX2_place 4 (some .boolean) ∈ lw_tbl := List.mem_append_right _ (List.mem_append_right _ (List.mem_append_left _ (List.mem_of_getElem? (i := 20) rfl)))
set_option maxRecDepth 100000 in
theorem tw_332 : Cond.selects RX2 yX2_place yX2_place ∈ lw_tbl := List.mem_append_right _ (List.mem_append_right _ (List.mem_append_left _ (List.mem_of_getElem? (i := 19) rfl)))
set_option maxRecDepth 100000 in
theorem tw_331 : Cond.instanceMethod yX2_place ∈ lw_tbl := List.mem_append_right _ (List.mem_append_right _ (List.mem_append_left _ (List.mem_of_getElem? (i := 18) rfl)))
set_option maxRecDepth 100000 in
theorem tw_330 : Cond.methodLink RX8 79 yX2_place ∈ lw_tbl := List.mem_append_right _ (List.mem_append_right _ (List.mem_append_left _ (List.mem_of_getElem? (i := 17) rfl)))
set_option maxRecDepth 100000 in
theorem tw_329 : Cond.code yX4_gap cX4_gap 4 (some .int) ∈ lw_tbl := List.mem_append_right _ (List.mem_append_right _ (List.mem_append_left _ (List.mem_of_getElem? (i := 16) rfl)))
set_option maxRecDepth 100000 in
theorem tw_328 : Cond.selects RX4 yX4_gap yX4_gap ∈ lw_tbl := List.mem_append_right _ (List.mem_append_right _ (List.mem_append_left _ (List.mem_of_getElem? (i := 15) rfl)))
set_option maxRecDepth 100000 in
theorem tw_327 : Cond.instanceMethod yX4_gap ∈ lw_tbl := List.mem_append_right _ (List.mem_append_right _ (List.mem_append_left _ (List.mem_of_getElem? (i := 14) rfl)))
set_option maxRecDepth 100000 in
theorem tw_326 : Cond.methodLink RX8 75 yX4_gap ∈ lw_tbl := List.mem_append_right _ (List.mem_append_right _ (List.mem_append_left _ (List.mem_of_getElem? (i := 13) rfl)))
set_option maxRecDepth 100000 in
theorem tw_325 : Cond.methodLink RX8 71 yX4_areTwo ∈ lw_tbl := List.mem_append_right _ (List.mem_append_right _ (List.mem_append_left _ (List.mem_of_getElem? (i := 12) rfl)))
set_option maxRecDepth 100000 in
theorem dl_wsX8_set_r1 : ∀ w ∈ wsX8_set_r1, w ∈ lw_tbl := (List.forall_mem_cons.mpr ⟨tw_291, (List.forall_mem_cons.mpr ⟨tw_163, (List.forall_mem_cons.mpr ⟨tw_325, (List.forall_mem_cons.mpr ⟨tw_122, (List.forall_mem_cons.mpr ⟨tw_123, (List.forall_mem_cons.mpr ⟨tw_76, (List.forall_mem_cons.mpr ⟨tw_124, (List.forall_mem_cons.mpr ⟨tw_126, (List.forall_mem_cons.mpr ⟨tw_326, (List.forall_mem_cons.mpr ⟨tw_327, (List.forall_mem_cons.mpr ⟨tw_328, (List.forall_mem_cons.mpr ⟨tw_329, (List.forall_mem_cons.mpr ⟨tw_131, (List.forall_mem_cons.mpr ⟨tw_330, (List.forall_mem_cons.mpr ⟨tw_331, (List.forall_mem_cons.mpr ⟨tw_332, (List.forall_mem_cons.mpr ⟨tw_75, (List.forall_mem_cons.mpr ⟨tw_333, (List.forall_mem_cons.mpr ⟨tw_162, (List.forall_mem_cons.mpr ⟨tw_334, (List.forall_mem_cons.mpr ⟨tw_335, (List.forall_mem_cons.mpr ⟨tw_118, (List.forall_mem_cons.mpr ⟨tw_119, (List.forall_mem_cons.mpr ⟨tw_120, (fun _ h => absurd h List.not_mem_nil)⟩)⟩)⟩)⟩)⟩)⟩)⟩)⟩)⟩)⟩)⟩)⟩)⟩)⟩)⟩)⟩)⟩)⟩)⟩)⟩)⟩)⟩)⟩)⟩)
set_option maxRecDepth 100000 in
theorem dl_wsX8_set_r2 : ∀ w ∈ wsX8_set_r2, w ∈ lw_tbl := (List.forall_mem_cons.mpr ⟨tw_121, (fun _ h => absurd h List.not_mem_nil)⟩)
set_option maxRecDepth 100000 in
theorem dl_wsX8_set : ∀ w ∈ wsX8_set, w ∈ lw_tbl := (List.forall_mem_cons.mpr ⟨tw_324, (List.forall_mem_append.mpr ⟨(List.forall_mem_append.mpr ⟨(List.forall_mem_append.mpr ⟨(List.forall_mem_append.mpr ⟨dl_wsX8_set_r1, dl_wsX8_set_r2⟩), fu_wsX80⟩), fu_wsX20⟩), fu_wsX40⟩)⟩)
set_option maxRecDepth 100000 in
theorem tw_323 : Cond.selects RX8 yX8_set yX8_set ∈ lw_tbl := List.mem_append_right _ (List.mem_append_right _ (List.mem_append_left _ (List.mem_of_getElem? (i := 10) rfl)))
set_option maxRecDepth 100000 in
theorem tw_322 : Cond.instanceMethod yX8_set ∈ lw_tbl := List.mem_append_right _ (List.mem_append_right _ (List.mem_append_left _ (List.mem_of_getElem? (i := 9) rfl)))
set_option maxRecDepth 100000 in
theorem tw_321 : Cond.methodLink RL 18 yX8_set ∈ lw_tbl := List.mem_append_right _ (List.mem_append_right _ (List.mem_append_left _ (List.mem_of_getElem? (i := 8) rfl)))
set_option maxRecDepth 100000 in
theorem tw_1027 : Cond.code yX9_set cX9_set 5 (some .int) ∈ lw_tbl := List.mem_append_right _ (List.mem_append_right _ (List.mem_append_right _ (List.mem_append_right _ (List.mem_append_left _ (List.mem_of_getElem? (i := 234) rfl)))))
set_option maxRecDepth 100000 in
theorem tw_1039 : Cond.code yX9_d cX9_d 3 (some .int) ∈ lw_tbl := List.mem_append_right _ (List.mem_append_right _ (List.mem_append_right _ (List.mem_append_right _ (List.mem_append_right _ (List.mem_append_left _ (List.mem_of_getElem? (i := 6) rfl))))))
set_option maxRecDepth 100000 in
theorem tw_28 : Cond.selects RX9 yX9_d yX9_d ∈ lw_tbl := List.mem_append_left _ (List.mem_of_getElem? (i := 28) rfl)
set_option maxRecDepth 100000 in
theorem tw_1038 : Cond.instanceMethod yX9_d ∈ lw_tbl := List.mem_append_right _ (List.mem_append_right _ (List.mem_append_right _ (List.mem_append_right _ (List.mem_append_right _ (List.mem_append_left _ (List.mem_of_getElem? (i := 5) rfl))))))
set_option maxRecDepth 100000 in
theorem tw_1036 : Cond.methodLink RX9 111 yX9_d ∈ lw_tbl := List.mem_append_right _ (List.mem_append_right _ (List.mem_append_right _ (List.mem_append_right _ (List.mem_append_right _ (List.mem_append_left _ (List.mem_of_getElem? (i := 3) rfl))))))
set_option maxRecDepth 100000 in
theorem tw_1035 : Cond.code yX9_isPoint cX9_isPoint 2 (some .boolean) ∈ lw_tbl := List.mem_append_right _ (List.mem_append_right _ (List.mem_append_right _ (List.mem_append_right _ (List.mem_append_right _ (List.mem_append_left _ (List.mem_of_getElem? (i := 2) rfl))))))
set_option maxRecDepth 100000 in
theorem tw_27 : Cond.selects RX9 yX9_isPoint yX9_isPoint ∈ lw_tbl := List.mem_append_left _ (List.mem_of_getElem? (i := 27) rfl)
set_option maxRecDepth 100000 in
theorem tw_1034 : Cond.instanceMethod yX9_isPoint ∈ lw_tbl := List.mem_append_right _ (List.mem_append_right _ (List.mem_append_right _ (List.mem_append_right _ (List.mem_append_right _ (List.mem_append_left _ (List.mem_of_getElem? (i := 1) rfl))))))
set_option maxRecDepth 100000 in
theorem tw_1032 : Cond.methodLink RX9 99 yX9_isPoint ∈ lw_tbl := List.mem_append_right _ (List.mem_append_right _ (List.mem_append_right _ (List.mem_append_right _ (List.mem_append_left _ (List.mem_of_getElem? (i := 239) rfl)))))
set_option maxRecDepth 100000 in
theorem tw_1031 : Cond.code yX9_areTwo cX9_areTwo 3 (some .boolean) ∈ lw_tbl := List.mem_append_right _ (List.mem_append_right _ (List.mem_append_right _ (List.mem_append_right _ (List.mem_append_left _ (List.mem_of_getElem? (i := 238) rfl)))))
set_option maxRecDepth 100000 in
theorem tw_26 : Cond.selects RX9 yX9_areTwo yX9_areTwo ∈ lw_tbl := List.mem_append_left _ (List.mem_of_getElem? (i := 26) rfl)
set_option maxRecDepth 100000 in
theorem tw_1030 : Cond.instanceMethod yX9_areTwo ∈ lw_tbl := List.mem_append_right _ (List.mem_append_right _ (List.mem_append_right _ (List.mem_append_right _ (List.mem_append_left _ (List.mem_of_getElem? (i := 237) rfl)))))
set_option maxRecDepth 100000 in
theorem tw_1028 : Cond.methodLink RX9 107 yX9_areTwo ∈ lw_tbl := List.mem_append_right _ (List.mem_append_right _ (List.mem_append_right _ (List.mem_append_right _ (List.mem_append_left _ (List.mem_of_getElem? (i := 235) rfl)))))
set_option maxRecDepth 100000 in
theorem dl_wsX9_set : ∀ w ∈ wsX9_set, w ∈ lw_tbl := (List.forall_mem_cons.mpr ⟨tw_1027, (List.forall_mem_append.mpr ⟨(List.forall_mem_cons.mpr ⟨tw_1028, (List.forall_mem_cons.mpr ⟨tw_1030, (List.forall_mem_cons.mpr ⟨tw_26, (List.forall_mem_cons.mpr ⟨tw_83, (List.forall_mem_cons.mpr ⟨tw_1031, (List.forall_mem_cons.mpr ⟨tw_1032, (List.forall_mem_cons.mpr ⟨tw_1034, (List.forall_mem_cons.mpr ⟨tw_27, (List.forall_mem_cons.mpr ⟨tw_1035, (List.forall_mem_cons.mpr ⟨tw_907, (List.forall_mem_cons.mpr ⟨tw_1017, (List.forall_mem_cons.mpr ⟨tw_1018, (List.forall_mem_cons.mpr ⟨tw_1019, (List.forall_mem_cons.mpr ⟨tw_1036, (List.forall_mem_cons.mpr ⟨tw_1038, (List.forall_mem_cons.mpr ⟨tw_28, (List.forall_mem_cons.mpr ⟨tw_1039, (List.forall_mem_cons.mpr ⟨tw_908, (List.forall_mem_cons.mpr ⟨tw_1020, (List.forall_mem_cons.mpr ⟨tw_1022, (List.forall_mem_cons.mpr ⟨tw_25, (List.forall_mem_cons.mpr ⟨tw_1023, (fun _ h => absurd h List.not_mem_nil)⟩)⟩)⟩)⟩)⟩)⟩)⟩)⟩)⟩)⟩)⟩)⟩)⟩)⟩)⟩)⟩)⟩)⟩)⟩)⟩)⟩)⟩), fu_wsX90⟩)⟩)
set_option maxRecDepth 100000 in
theorem tw_1026 : Cond.selects RX9 yX9_set yX9_set ∈ lw_tbl := List.mem_append_right _ (List.mem_append_right _ (List.mem_append_right _ (List.mem_append_right _ (List.mem_append_left _ (List.mem_of_getElem? (i := 233) rfl)))))
set_option maxRecDepth 100000 in
theorem tw_1025 : Cond.instanceMethod yX9_set ∈ lw_tbl := List.mem_append_right _ (List.mem_append_right _ (List.mem_append_right _ (List.mem_append_right _ (List.mem_append_left _ (List.mem_of_getElem? (i := 232) rfl)))))
set_option maxRecDepth 100000 in
theorem tw_1024 : Cond.methodLink RL 22 yX9_set ∈ lw_tbl := List.mem_append_right _ (List.mem_append_right _ (List.mem_append_right _ (List.mem_append_right _ (List.mem_append_left _ (List.mem_of_getElem? (i := 231) rfl)))))
set_option maxRecDepth 100000 in
theorem tw_339 : Cond.code yX8_shorten cX8_shorten 1 (some .int) ∈ lw_tbl := List.mem_append_right _ (List.mem_append_right _ (List.mem_append_left _ (List.mem_of_getElem? (i := 26) rfl)))
set_option maxRecDepth 100000 in
theorem tw_351 : Cond.methodLink RX4 46 yX4_gap ∈ lw_tbl := List.mem_append_right _ (List.mem_append_right _ (List.mem_append_left _ (List.mem_of_getElem? (i := 38) rfl)))
set_option maxRecDepth 100000 in
theorem tw_350 : Cond.code yX4_takeShortWays cX4_takeShortWays 4 none ∈ lw_tbl := List.mem_append_right _ (List.mem_append_right _ (List.mem_append_left _ (List.mem_of_getElem? (i := 37) rfl)))
set_option maxRecDepth 100000 in
theorem tw_349 : Cond.selects RX4 yX4_takeShortWays yX4_takeShortWays ∈ lw_tbl := List.mem_append_right _ (List.mem_append_right _ (List.mem_append_left _ (List.mem_of_getElem? (i := 36) rfl)))
set_option maxRecDepth 100000 in
theorem tw_348 : Cond.instanceMethod yX4_takeShortWays ∈ lw_tbl := List.mem_append_right _ (List.mem_append_right _ (List.mem_append_left _ (List.mem_of_getElem? (i := 35) rfl)))
set_option maxRecDepth 100000 in
theorem tw_347 : Cond.methodLink RX8 87 yX4_takeShortWays ∈ lw_tbl := List.mem_append_right _ (List.mem_append_right _ (List.mem_append_left _ (List.mem_of_getElem? (i := 34) rfl)))
set_option maxRecDepth 100000 in
theorem tw_84 : Cond.initialized "java/lang/System" ∈ lw_tbl := List.mem_append_right _ (List.mem_append_left _ (List.mem_of_getElem? (i := 11) rfl))
set_option maxRecDepth 100000 in
theorem tw_345 : Cond.static arraycopyName ∈ lw_tbl := List.mem_append_right _ (List.mem_append_right _ (List.mem_append_left _ (List.mem_of_getElem? (i := 32) rfl)))
set_option maxRecDepth 100000 in
theorem tw_346 : Cond.native arraycopyName ∈ lw_tbl := List.mem_append_right _ (List.mem_append_right _ (List.mem_append_left _ (List.mem_of_getElem? (i := 33) rfl)))
set_option maxRecDepth 100000 in
theorem tw_344 : Cond.methodLink RX4 36 arraycopyName ∈ lw_tbl := List.mem_append_right _ (List.mem_append_right _ (List.mem_append_left _ (List.mem_of_getElem? (i := 31) rfl)))
set_option maxRecDepth 100000 in
theorem tw_343 : Cond.code yX4_become cX4_become 2 none ∈ lw_tbl := List.mem_append_right _ (List.mem_append_right _ (List.mem_append_left _ (List.mem_of_getElem? (i := 30) rfl)))
set_option maxRecDepth 100000 in
theorem tw_342 : Cond.selects RX4 yX4_become yX4_become ∈ lw_tbl := List.mem_append_right _ (List.mem_append_right _ (List.mem_append_left _ (List.mem_of_getElem? (i := 29) rfl)))
set_option maxRecDepth 100000 in
theorem tw_341 : Cond.instanceMethod yX4_become ∈ lw_tbl := List.mem_append_right _ (List.mem_append_right _ (List.mem_append_left _ (List.mem_of_getElem? (i := 28) rfl)))
set_option maxRecDepth 100000 in
theorem tw_340 : Cond.methodLink RX8 83 yX4_become ∈ lw_tbl := List.mem_append_right _ (List.mem_append_right _ (List.mem_append_left _ (List.mem_of_getElem? (i := 27) rfl)))
set_option maxRecDepth 100000 in
theorem dl_wsX8_shorten_r1 : ∀ w ∈ wsX8_shorten_r1, w ∈ lw_tbl := (List.forall_mem_cons.mpr ⟨tw_294, (List.forall_mem_cons.mpr ⟨tw_291, (List.forall_mem_cons.mpr ⟨tw_163, (List.forall_mem_cons.mpr ⟨tw_340, (List.forall_mem_cons.mpr ⟨tw_341, (List.forall_mem_cons.mpr ⟨tw_342, (List.forall_mem_cons.mpr ⟨tw_76, (List.forall_mem_cons.mpr ⟨tw_343, (List.forall_mem_cons.mpr ⟨tw_126, (List.forall_mem_cons.mpr ⟨tw_131, (List.forall_mem_cons.mpr ⟨tw_344, (List.forall_mem_cons.mpr ⟨tw_346, (List.forall_mem_cons.mpr ⟨tw_345, (List.forall_mem_cons.mpr ⟨tw_84, (List.forall_mem_cons.mpr ⟨tw_347, (List.forall_mem_cons.mpr ⟨tw_348, (List.forall_mem_cons.mpr ⟨tw_349, (List.forall_mem_cons.mpr ⟨tw_350, (List.forall_mem_cons.mpr ⟨tw_111, (List.forall_mem_cons.mpr ⟨tw_112, (List.forall_mem_cons.mpr ⟨tw_77, (List.forall_mem_cons.mpr ⟨tw_113, (List.forall_mem_cons.mpr ⟨tw_351, (List.forall_mem_cons.mpr ⟨tw_327, (fun _ h => absurd h List.not_mem_nil)⟩)⟩)⟩)⟩)⟩)⟩)⟩)⟩)⟩)⟩)⟩)⟩)⟩)⟩)⟩)⟩)⟩)⟩)⟩)⟩)⟩)⟩)⟩)⟩)
set_option maxRecDepth 100000 in
theorem tw_355 : Cond.code yX4_otherwiseThan cX4_otherwiseThan 5 (some .int) ∈ lw_tbl := List.mem_append_right _ (List.mem_append_right _ (List.mem_append_left _ (List.mem_of_getElem? (i := 42) rfl)))
set_option maxRecDepth 100000 in
theorem tw_354 : Cond.selects RX4 yX4_otherwiseThan yX4_otherwiseThan ∈ lw_tbl := List.mem_append_right _ (List.mem_append_right _ (List.mem_append_left _ (List.mem_of_getElem? (i := 41) rfl)))
set_option maxRecDepth 100000 in
theorem tw_353 : Cond.instanceMethod yX4_otherwiseThan ∈ lw_tbl := List.mem_append_right _ (List.mem_append_right _ (List.mem_append_left _ (List.mem_of_getElem? (i := 40) rfl)))
set_option maxRecDepth 100000 in
theorem tw_352 : Cond.methodLink RX8 90 yX4_otherwiseThan ∈ lw_tbl := List.mem_append_right _ (List.mem_append_right _ (List.mem_append_left _ (List.mem_of_getElem? (i := 39) rfl)))
set_option maxRecDepth 100000 in
theorem dl_wsX8_shorten_r2 : ∀ w ∈ wsX8_shorten_r2, w ∈ lw_tbl := (List.forall_mem_cons.mpr ⟨tw_328, (List.forall_mem_cons.mpr ⟨tw_329, (List.forall_mem_cons.mpr ⟨tw_117, (List.forall_mem_cons.mpr ⟨tw_118, (List.forall_mem_cons.mpr ⟨tw_119, (List.forall_mem_cons.mpr ⟨tw_120, (List.forall_mem_cons.mpr ⟨tw_121, (List.forall_mem_cons.mpr ⟨tw_122, (List.forall_mem_cons.mpr ⟨tw_123, (List.forall_mem_cons.mpr ⟨tw_124, (List.forall_mem_cons.mpr ⟨tw_352, (List.forall_mem_cons.mpr ⟨tw_353, (List.forall_mem_cons.mpr ⟨tw_354, (List.forall_mem_cons.mpr ⟨tw_355, (fun _ h => absurd h List.not_mem_nil)⟩)⟩)⟩)⟩)⟩)⟩)⟩)⟩)⟩)⟩)⟩)⟩)⟩)⟩)
set_option maxRecDepth 100000 in
theorem dl_wsX8_shorten : ∀ w ∈ wsX8_shorten, w ∈ lw_tbl := (List.forall_mem_cons.mpr ⟨tw_339, (List.forall_mem_append.mpr ⟨(List.forall_mem_append.mpr ⟨(List.forall_mem_append.mpr ⟨(List.forall_mem_append.mpr ⟨dl_wsX8_shorten_r1, dl_wsX8_shorten_r2⟩), fu_wsX80⟩), fu_wsX20⟩), fu_wsX40⟩)⟩)
set_option maxRecDepth 100000 in
theorem tw_338 : Cond.selects RX8 yX8_shorten yX8_shorten ∈ lw_tbl := List.mem_append_right _ (List.mem_append_right _ (List.mem_append_left _ (List.mem_of_getElem? (i := 25) rfl)))
set_option maxRecDepth 100000 in
theorem tw_337 : Cond.instanceMethod yX8_shorten ∈ lw_tbl := List.mem_append_right _ (List.mem_append_right _ (List.mem_append_left _ (List.mem_of_getElem? (i := 24) rfl)))
set_option maxRecDepth 100000 in
theorem tw_336 : Cond.methodLink RL 23 yX8_shorten ∈ lw_tbl := List.mem_append_right _ (List.mem_append_right _ (List.mem_append_left _ (List.mem_of_getElem? (i := 23) rfl)))
set_option maxRecDepth 100000 in
theorem tw_1043 : Cond.code yX9_shorten cX9_shorten 1 (some .int) ∈ lw_tbl := List.mem_append_right _ (List.mem_append_right _ (List.mem_append_right _ (List.mem_append_right _ (List.mem_append_right _ (List.mem_append_left _ (List.mem_of_getElem? (i := 10) rfl))))))
set_option maxRecDepth 100000 in
theorem tw_1048 : Cond.methodLink RX9 115 Lib.Math.min.name ∈ lw_tbl := List.mem_append_right _ (List.mem_append_right _ (List.mem_append_right _ (List.mem_append_right _ (List.mem_append_right _ (List.mem_append_left _ (List.mem_of_getElem? (i := 15) rfl))))))
set_option maxRecDepth 100000 in
theorem tw_1047 : Cond.code yX9_shortens cX9_shortens 5 (some .int) ∈ lw_tbl := List.mem_append_right _ (List.mem_append_right _ (List.mem_append_right _ (List.mem_append_right _ (List.mem_append_right _ (List.mem_append_left _ (List.mem_of_getElem? (i := 14) rfl))))))
set_option maxRecDepth 100000 in
theorem tw_29 : Cond.selects RX9 yX9_shortens yX9_shortens ∈ lw_tbl := List.mem_append_left _ (List.mem_of_getElem? (i := 29) rfl)
set_option maxRecDepth 100000 in
theorem tw_1046 : Cond.instanceMethod yX9_shortens ∈ lw_tbl := List.mem_append_right _ (List.mem_append_right _ (List.mem_append_right _ (List.mem_append_right _ (List.mem_append_right _ (List.mem_append_left _ (List.mem_of_getElem? (i := 13) rfl))))))
set_option maxRecDepth 100000 in
theorem tw_1044 : Cond.methodLink RX9 120 yX9_shortens ∈ lw_tbl := List.mem_append_right _ (List.mem_append_right _ (List.mem_append_right _ (List.mem_append_right _ (List.mem_append_right _ (List.mem_append_left _ (List.mem_of_getElem? (i := 11) rfl))))))
set_option maxRecDepth 100000 in
theorem dl_wsX9_shorten : ∀ w ∈ wsX9_shorten, w ∈ lw_tbl := (List.forall_mem_cons.mpr ⟨tw_1043, (List.forall_mem_append.mpr ⟨(List.forall_mem_cons.mpr ⟨tw_1044, (List.forall_mem_cons.mpr ⟨tw_1046, (List.forall_mem_cons.mpr ⟨tw_29, (List.forall_mem_cons.mpr ⟨tw_83, (List.forall_mem_cons.mpr ⟨tw_1047, (List.forall_mem_cons.mpr ⟨tw_907, (List.forall_mem_cons.mpr ⟨tw_927, (List.forall_mem_cons.mpr ⟨tw_1048, (List.forall_mem_cons.mpr ⟨tw_112, (List.forall_mem_cons.mpr ⟨tw_77, (List.forall_mem_cons.mpr ⟨tw_113, (List.forall_mem_cons.mpr ⟨tw_1036, (List.forall_mem_cons.mpr ⟨tw_1038, (List.forall_mem_cons.mpr ⟨tw_28, (List.forall_mem_cons.mpr ⟨tw_1039, (List.forall_mem_cons.mpr ⟨tw_908, (List.forall_mem_cons.mpr ⟨tw_1020, (List.forall_mem_cons.mpr ⟨tw_1022, (List.forall_mem_cons.mpr ⟨tw_25, (List.forall_mem_cons.mpr ⟨tw_1023, (fun _ h => absurd h List.not_mem_nil)⟩)⟩)⟩)⟩)⟩)⟩)⟩)⟩)⟩)⟩)⟩)⟩)⟩)⟩)⟩)⟩)⟩)⟩)⟩)⟩), fu_wsX90⟩)⟩)
set_option maxRecDepth 100000 in
theorem tw_1042 : Cond.selects RX9 yX9_shorten yX9_shorten ∈ lw_tbl := List.mem_append_right _ (List.mem_append_right _ (List.mem_append_right _ (List.mem_append_right _ (List.mem_append_right _ (List.mem_append_left _ (List.mem_of_getElem? (i := 9) rfl))))))
set_option maxRecDepth 100000 in
theorem tw_1041 : Cond.instanceMethod yX9_shorten ∈ lw_tbl := List.mem_append_right _ (List.mem_append_right _ (List.mem_append_right _ (List.mem_append_right _ (List.mem_append_right _ (List.mem_append_left _ (List.mem_of_getElem? (i := 8) rfl))))))
set_option maxRecDepth 100000 in
theorem tw_1040 : Cond.methodLink RL 27 yX9_shorten ∈ lw_tbl := List.mem_append_right _ (List.mem_append_right _ (List.mem_append_right _ (List.mem_append_right _ (List.mem_append_right _ (List.mem_append_left _ (List.mem_of_getElem? (i := 7) rfl))))))
set_option maxRecDepth 100000 in
theorem tw_359 : Cond.code yX8_function cX8_function 4 (some .int) ∈ lw_tbl := List.mem_append_right _ (List.mem_append_right _ (List.mem_append_left _ (List.mem_of_getElem? (i := 46) rfl)))
set_option maxRecDepth 100000 in
theorem tw_363 : Cond.code yX4_has cX4_has 2 (some .boolean) ∈ lw_tbl := List.mem_append_right _ (List.mem_append_right _ (List.mem_append_left _ (List.mem_of_getElem? (i := 50) rfl)))
set_option maxRecDepth 100000 in
theorem tw_362 : Cond.selects RX4 yX4_has yX4_has ∈ lw_tbl := List.mem_append_right _ (List.mem_append_right _ (List.mem_append_left _ (List.mem_of_getElem? (i := 49) rfl)))
set_option maxRecDepth 100000 in
theorem tw_361 : Cond.instanceMethod yX4_has ∈ lw_tbl := List.mem_append_right _ (List.mem_append_right _ (List.mem_append_left _ (List.mem_of_getElem? (i := 48) rfl)))
set_option maxRecDepth 100000 in
theorem tw_360 : Cond.methodLink RX8 94 yX4_has ∈ lw_tbl := List.mem_append_right _ (List.mem_append_right _ (List.mem_append_left _ (List.mem_of_getElem? (i := 47) rfl)))
set_option maxRecDepth 100000 in
theorem tw_166 : Cond.fieldLink RX8 97 "TightHulls$Setup" "numbers" "[I" ∈ lw_tbl := List.mem_append_right _ (List.mem_append_left _ (List.mem_of_getElem? (i := 93) rfl))
set_option maxRecDepth 100000 in
theorem dl_wsX8_function : ∀ w ∈ wsX8_function, w ∈ lw_tbl := (List.forall_mem_cons.mpr ⟨tw_359, (List.forall_mem_append.mpr ⟨(List.forall_mem_append.mpr ⟨(List.forall_mem_append.mpr ⟨(List.forall_mem_cons.mpr ⟨tw_291, (List.forall_mem_cons.mpr ⟨tw_163, (List.forall_mem_cons.mpr ⟨tw_166, (List.forall_mem_cons.mpr ⟨tw_360, (List.forall_mem_cons.mpr ⟨tw_361, (List.forall_mem_cons.mpr ⟨tw_362, (List.forall_mem_cons.mpr ⟨tw_76, (List.forall_mem_cons.mpr ⟨tw_363, (List.forall_mem_cons.mpr ⟨tw_126, (fun _ h => absurd h List.not_mem_nil)⟩)⟩)⟩)⟩)⟩)⟩)⟩)⟩)⟩), fu_wsX80⟩), fu_wsX20⟩), fu_wsX40⟩)⟩)
set_option maxRecDepth 100000 in
theorem tw_358 : Cond.selects RX8 yX8_function yX8_function ∈ lw_tbl := List.mem_append_right _ (List.mem_append_right _ (List.mem_append_left _ (List.mem_of_getElem? (i := 45) rfl)))
set_option maxRecDepth 100000 in
theorem tw_357 : Cond.instanceMethod yX8_function ∈ lw_tbl := List.mem_append_right _ (List.mem_append_right _ (List.mem_append_left _ (List.mem_of_getElem? (i := 44) rfl)))
set_option maxRecDepth 100000 in
theorem tw_356 : Cond.methodLink RL 28 yX8_function ∈ lw_tbl := List.mem_append_right _ (List.mem_append_right _ (List.mem_append_left _ (List.mem_of_getElem? (i := 43) rfl)))
set_option maxRecDepth 100000 in
theorem tw_1052 : Cond.code yX9_function cX9_function 4 (some .int) ∈ lw_tbl := List.mem_append_right _ (List.mem_append_right _ (List.mem_append_right _ (List.mem_append_right _ (List.mem_append_right _ (List.mem_append_left _ (List.mem_of_getElem? (i := 19) rfl))))))
set_option maxRecDepth 100000 in
theorem dl_wsX9_function : ∀ w ∈ wsX9_function, w ∈ lw_tbl := (List.forall_mem_cons.mpr ⟨tw_1052, (List.forall_mem_append.mpr ⟨(List.forall_mem_cons.mpr ⟨tw_909, (List.forall_mem_cons.mpr ⟨tw_1032, (List.forall_mem_cons.mpr ⟨tw_1034, (List.forall_mem_cons.mpr ⟨tw_27, (List.forall_mem_cons.mpr ⟨tw_83, (List.forall_mem_cons.mpr ⟨tw_1035, (List.forall_mem_cons.mpr ⟨tw_907, (List.forall_mem_cons.mpr ⟨tw_1017, (List.forall_mem_cons.mpr ⟨tw_1018, (List.forall_mem_cons.mpr ⟨tw_1019, (fun _ h => absurd h List.not_mem_nil)⟩)⟩)⟩)⟩)⟩)⟩)⟩)⟩)⟩)⟩), fu_wsX90⟩)⟩)
set_option maxRecDepth 100000 in
theorem tw_1051 : Cond.selects RX9 yX9_function yX9_function ∈ lw_tbl := List.mem_append_right _ (List.mem_append_right _ (List.mem_append_right _ (List.mem_append_right _ (List.mem_append_right _ (List.mem_append_left _ (List.mem_of_getElem? (i := 18) rfl))))))
set_option maxRecDepth 100000 in
theorem tw_1050 : Cond.instanceMethod yX9_function ∈ lw_tbl := List.mem_append_right _ (List.mem_append_right _ (List.mem_append_right _ (List.mem_append_right _ (List.mem_append_right _ (List.mem_append_left _ (List.mem_of_getElem? (i := 17) rfl))))))
set_option maxRecDepth 100000 in
theorem tw_1049 : Cond.methodLink RL 32 yX9_function ∈ lw_tbl := List.mem_append_right _ (List.mem_append_right _ (List.mem_append_right _ (List.mem_append_right _ (List.mem_append_right _ (List.mem_append_left _ (List.mem_of_getElem? (i := 16) rfl))))))
set_option maxRecDepth 100000 in
theorem tw_367 : Cond.code yX8_least cX8_least 4 (some .int) ∈ lw_tbl := List.mem_append_right _ (List.mem_append_right _ (List.mem_append_left _ (List.mem_of_getElem? (i := 54) rfl)))
set_option maxRecDepth 100000 in
theorem tw_375 : Cond.methodLink RX7 28 yX4_gap ∈ lw_tbl := List.mem_append_right _ (List.mem_append_right _ (List.mem_append_left _ (List.mem_of_getElem? (i := 62) rfl)))
set_option maxRecDepth 100000 in
theorem tw_376 : Cond.methodLink RX7 47 Lib.Math.max.name ∈ lw_tbl := List.mem_append_right _ (List.mem_append_right _ (List.mem_append_left _ (List.mem_of_getElem? (i := 63) rfl)))
set_option maxRecDepth 100000 in
theorem tw_130 : Cond.fieldLink RX7 22 "TightHulls$Table" "size" "I" ∈ lw_tbl := List.mem_append_right _ (List.mem_append_left _ (List.mem_of_getElem? (i := 57) rfl))
set_option maxRecDepth 100000 in
theorem tw_374 : Cond.code yX7_needed cX7_needed 6 (some .int) ∈ lw_tbl := List.mem_append_right _ (List.mem_append_right _ (List.mem_append_left _ (List.mem_of_getElem? (i := 61) rfl)))
set_option maxRecDepth 100000 in
theorem tw_85 : Cond.initialized RX7 ∈ lw_tbl := List.mem_append_right _ (List.mem_append_left _ (List.mem_of_getElem? (i := 12) rfl))
set_option maxRecDepth 100000 in
theorem tw_373 : Cond.static yX7_needed ∈ lw_tbl := List.mem_append_right _ (List.mem_append_right _ (List.mem_append_left _ (List.mem_of_getElem? (i := 60) rfl)))
set_option maxRecDepth 100000 in
theorem tw_372 : Cond.methodLink RX2 81 yX7_needed ∈ lw_tbl := List.mem_append_right _ (List.mem_append_right _ (List.mem_append_left _ (List.mem_of_getElem? (i := 59) rfl)))
set_option maxRecDepth 100000 in
theorem tw_129 : Cond.fieldLink RX2 68 "TightHulls$Table" "size" "I" ∈ lw_tbl := List.mem_append_right _ (List.mem_append_left _ (List.mem_of_getElem? (i := 56) rfl))
set_option maxRecDepth 100000 in
theorem tw_371 : Cond.code yX2_makeLeast cX2_makeLeast 4 (some .int) ∈ lw_tbl := List.mem_append_right _ (List.mem_append_right _ (List.mem_append_left _ (List.mem_of_getElem? (i := 58) rfl)))
set_option maxRecDepth 100000 in
theorem tw_370 : Cond.selects RX2 yX2_makeLeast yX2_makeLeast ∈ lw_tbl := List.mem_append_right _ (List.mem_append_right _ (List.mem_append_left _ (List.mem_of_getElem? (i := 57) rfl)))
set_option maxRecDepth 100000 in
theorem tw_369 : Cond.instanceMethod yX2_makeLeast ∈ lw_tbl := List.mem_append_right _ (List.mem_append_right _ (List.mem_append_left _ (List.mem_of_getElem? (i := 56) rfl)))
set_option maxRecDepth 100000 in
theorem tw_368 : Cond.methodLink RX8 101 yX2_makeLeast ∈ lw_tbl := List.mem_append_right _ (List.mem_append_right _ (List.mem_append_left _ (List.mem_of_getElem? (i := 55) rfl)))
set_option maxRecDepth 100000 in
theorem dl_wsX8_least_r1 : ∀ w ∈ wsX8_least_r1, w ∈ lw_tbl := (List.forall_mem_cons.mpr ⟨tw_291, (List.forall_mem_cons.mpr ⟨tw_296, (List.forall_mem_cons.mpr ⟨tw_368, (List.forall_mem_cons.mpr ⟨tw_369, (List.forall_mem_cons.mpr ⟨tw_370, (List.forall_mem_cons.mpr ⟨tw_75, (List.forall_mem_cons.mpr ⟨tw_371, (List.forall_mem_cons.mpr ⟨tw_162, (List.forall_mem_cons.mpr ⟨tw_129, (List.forall_mem_cons.mpr ⟨tw_165, (List.forall_mem_cons.mpr ⟨tw_372, (List.forall_mem_cons.mpr ⟨tw_373, (List.forall_mem_cons.mpr ⟨tw_85, (List.forall_mem_cons.mpr ⟨tw_374, (List.forall_mem_cons.mpr ⟨tw_130, (List.forall_mem_cons.mpr ⟨tw_376, (List.forall_mem_cons.mpr ⟨tw_115, (List.forall_mem_cons.mpr ⟨tw_77, (List.forall_mem_cons.mpr ⟨tw_116, (List.forall_mem_cons.mpr ⟨tw_375, (List.forall_mem_cons.mpr ⟨tw_327, (List.forall_mem_cons.mpr ⟨tw_328, (List.forall_mem_cons.mpr ⟨tw_76, (List.forall_mem_cons.mpr ⟨tw_329, (fun _ h => absurd h List.not_mem_nil)⟩)⟩)⟩)⟩)⟩)⟩)⟩)⟩)⟩)⟩)⟩)⟩)⟩)⟩)⟩)⟩)⟩)⟩)⟩)⟩)⟩)⟩)⟩)⟩)
set_option maxRecDepth 100000 in
theorem tw_390 : Cond.instanceMethod yX4_isLike ∈ lw_tbl := List.mem_append_right _ (List.mem_append_right _ (List.mem_append_left _ (List.mem_of_getElem? (i := 77) rfl)))
set_option maxRecDepth 100000 in
theorem tw_389 : Cond.methodLink RX0 40 yX4_isLike ∈ lw_tbl := List.mem_append_right _ (List.mem_append_right _ (List.mem_append_left _ (List.mem_of_getElem? (i := 76) rfl)))
set_option maxRecDepth 100000 in
theorem tw_388 : Cond.code yX0_follow cX0_follow 2 none ∈ lw_tbl := List.mem_append_right _ (List.mem_append_right _ (List.mem_append_left _ (List.mem_of_getElem? (i := 75) rfl)))
set_option maxRecDepth 100000 in
theorem tw_387 : Cond.selects RX0 yX0_follow yX0_follow ∈ lw_tbl := List.mem_append_right _ (List.mem_append_right _ (List.mem_append_left _ (List.mem_of_getElem? (i := 74) rfl)))
set_option maxRecDepth 100000 in
theorem tw_386 : Cond.instanceMethod yX0_follow ∈ lw_tbl := List.mem_append_right _ (List.mem_append_right _ (List.mem_append_left _ (List.mem_of_getElem? (i := 73) rfl)))
set_option maxRecDepth 100000 in
theorem tw_385 : Cond.methodLink RX8 188 yX0_follow ∈ lw_tbl := List.mem_append_right _ (List.mem_append_right _ (List.mem_append_left _ (List.mem_of_getElem? (i := 72) rfl)))
set_option maxRecDepth 100000 in
theorem tw_231 : Cond.fieldLink RX8 189 "TightHulls$Hull" "there" "Z" ∈ lw_tbl := List.mem_append_right _ (List.mem_append_left _ (List.mem_of_getElem? (i := 158) rfl))
set_option maxRecDepth 100000 in
theorem tw_384 : Cond.code yX8_cornerRefusal cX8_cornerRefusal 2 (some .int) ∈ lw_tbl := List.mem_append_right _ (List.mem_append_right _ (List.mem_append_left _ (List.mem_of_getElem? (i := 71) rfl)))
set_option maxRecDepth 100000 in
theorem tw_1 : Cond.selects RX8 yX8_cornerRefusal yX8_cornerRefusal ∈ lw_tbl := List.mem_append_left _ (List.mem_of_getElem? (i := 1) rfl)
set_option maxRecDepth 100000 in
theorem tw_383 : Cond.instanceMethod yX8_cornerRefusal ∈ lw_tbl := List.mem_append_right _ (List.mem_append_right _ (List.mem_append_left _ (List.mem_of_getElem? (i := 70) rfl)))
set_option maxRecDepth 100000 in
theorem tw_381 : Cond.methodLink RX8 105 yX8_cornerRefusal ∈ lw_tbl := List.mem_append_right _ (List.mem_append_right _ (List.mem_append_left _ (List.mem_of_getElem? (i := 68) rfl)))
set_option maxRecDepth 100000 in
theorem tw_380 : Cond.code yX2_becomes cX2_becomes 4 (some .int) ∈ lw_tbl := List.mem_append_right _ (List.mem_append_right _ (List.mem_append_left _ (List.mem_of_getElem? (i := 67) rfl)))
set_option maxRecDepth 100000 in
theorem tw_0 : Cond.selects RX2 yX2_becomes yX2_becomes ∈ lw_tbl := List.mem_append_left _ (List.mem_of_getElem? (i := 0) rfl)
set_option maxRecDepth 100000 in
theorem tw_379 : Cond.instanceMethod yX2_becomes ∈ lw_tbl := List.mem_append_right _ (List.mem_append_right _ (List.mem_append_left _ (List.mem_of_getElem? (i := 66) rfl)))
set_option maxRecDepth 100000 in
theorem tw_377 : Cond.methodLink RX2 87 yX2_becomes ∈ lw_tbl := List.mem_append_right _ (List.mem_append_right _ (List.mem_append_left _ (List.mem_of_getElem? (i := 64) rfl)))
set_option maxRecDepth 100000 in
theorem dl_wsX8_least_r2 : ∀ w ∈ wsX8_least_r2, w ∈ lw_tbl := (List.forall_mem_cons.mpr ⟨tw_126, (List.forall_mem_cons.mpr ⟨tw_131, (List.forall_mem_cons.mpr ⟨tw_377, (List.forall_mem_cons.mpr ⟨tw_379, (List.forall_mem_cons.mpr ⟨tw_0, (List.forall_mem_cons.mpr ⟨tw_380, (List.forall_mem_cons.mpr ⟨tw_381, (List.forall_mem_cons.mpr ⟨tw_383, (List.forall_mem_cons.mpr ⟨tw_1, (List.forall_mem_cons.mpr ⟨tw_74, (List.forall_mem_cons.mpr ⟨tw_384, (List.forall_mem_cons.mpr ⟨tw_163, (List.forall_mem_cons.mpr ⟨tw_231, (List.forall_mem_cons.mpr ⟨tw_385, (List.forall_mem_cons.mpr ⟨tw_386, (List.forall_mem_cons.mpr ⟨tw_387, (List.forall_mem_cons.mpr ⟨tw_80, (List.forall_mem_cons.mpr ⟨tw_388, (List.forall_mem_cons.mpr ⟨tw_226, (List.forall_mem_cons.mpr ⟨tw_225, (List.forall_mem_cons.mpr ⟨tw_232, (List.forall_mem_cons.mpr ⟨tw_230, (List.forall_mem_cons.mpr ⟨tw_389, (List.forall_mem_cons.mpr ⟨tw_390, (fun _ h => absurd h List.not_mem_nil)⟩)⟩)⟩)⟩)⟩)⟩)⟩)⟩)⟩)⟩)⟩)⟩)⟩)⟩)⟩)⟩)⟩)⟩)⟩)⟩)⟩)⟩)⟩)⟩)
set_option maxRecDepth 100000 in
theorem tw_403 : Cond.methodLink RX0 52 yX0_addEyes ∈ lw_tbl := List.mem_append_right _ (List.mem_append_right _ (List.mem_append_left _ (List.mem_of_getElem? (i := 90) rfl)))
set_option maxRecDepth 100000 in
theorem tw_402 : Cond.code yX4_firstBarred cX4_firstBarred 4 (some .int) ∈ lw_tbl := List.mem_append_right _ (List.mem_append_right _ (List.mem_append_left _ (List.mem_of_getElem? (i := 89) rfl)))
set_option maxRecDepth 100000 in
theorem tw_401 : Cond.selects RX4 yX4_firstBarred yX4_firstBarred ∈ lw_tbl := List.mem_append_right _ (List.mem_append_right _ (List.mem_append_left _ (List.mem_of_getElem? (i := 88) rfl)))
set_option maxRecDepth 100000 in
theorem tw_400 : Cond.instanceMethod yX4_firstBarred ∈ lw_tbl := List.mem_append_right _ (List.mem_append_right _ (List.mem_append_left _ (List.mem_of_getElem? (i := 87) rfl)))
set_option maxRecDepth 100000 in
theorem tw_399 : Cond.methodLink RX4 53 yX4_firstBarred ∈ lw_tbl := List.mem_append_right _ (List.mem_append_right _ (List.mem_append_left _ (List.mem_of_getElem? (i := 86) rfl)))
set_option maxRecDepth 100000 in
theorem tw_398 : Cond.code yX4_isTable cX4_isTable 1 (some .boolean) ∈ lw_tbl := List.mem_append_right _ (List.mem_append_right _ (List.mem_append_left _ (List.mem_of_getElem? (i := 85) rfl)))
set_option maxRecDepth 100000 in
theorem tw_397 : Cond.selects RX4 yX4_isTable yX4_isTable ∈ lw_tbl := List.mem_append_right _ (List.mem_append_right _ (List.mem_append_left _ (List.mem_of_getElem? (i := 84) rfl)))
set_option maxRecDepth 100000 in
theorem tw_396 : Cond.instanceMethod yX4_isTable ∈ lw_tbl := List.mem_append_right _ (List.mem_append_right _ (List.mem_append_left _ (List.mem_of_getElem? (i := 83) rfl)))
set_option maxRecDepth 100000 in
theorem tw_395 : Cond.methodLink RX0 48 yX4_isTable ∈ lw_tbl := List.mem_append_right _ (List.mem_append_right _ (List.mem_append_left _ (List.mem_of_getElem? (i := 82) rfl)))
set_option maxRecDepth 100000 in
theorem tw_394 : Cond.methodLink RX0 44 yX4_become ∈ lw_tbl := List.mem_append_right _ (List.mem_append_right _ (List.mem_append_left _ (List.mem_of_getElem? (i := 81) rfl)))
set_option maxRecDepth 100000 in
theorem tw_393 : Cond.methodLink RX4 49 yX4_otherwiseThan ∈ lw_tbl := List.mem_append_right _ (List.mem_append_right _ (List.mem_append_left _ (List.mem_of_getElem? (i := 80) rfl)))
set_option maxRecDepth 100000 in
theorem tw_392 : Cond.code yX4_isLike cX4_isLike 2 (some .boolean) ∈ lw_tbl := List.mem_append_right _ (List.mem_append_right _ (List.mem_append_left _ (List.mem_of_getElem? (i := 79) rfl)))
set_option maxRecDepth 100000 in
theorem tw_391 : Cond.selects RX4 yX4_isLike yX4_isLike ∈ lw_tbl := List.mem_append_right _ (List.mem_append_right _ (List.mem_append_left _ (List.mem_of_getElem? (i := 78) rfl)))
set_option maxRecDepth 100000 in
theorem dl_wsX8_least_r3 : ∀ w ∈ wsX8_least_r3, w ∈ lw_tbl := (List.forall_mem_cons.mpr ⟨tw_391, (List.forall_mem_cons.mpr ⟨tw_392, (List.forall_mem_cons.mpr ⟨tw_393, (List.forall_mem_cons.mpr ⟨tw_353, (List.forall_mem_cons.mpr ⟨tw_354, (List.forall_mem_cons.mpr ⟨tw_355, (List.forall_mem_cons.mpr ⟨tw_351, (List.forall_mem_cons.mpr ⟨tw_394, (List.forall_mem_cons.mpr ⟨tw_341, (List.forall_mem_cons.mpr ⟨tw_342, (List.forall_mem_cons.mpr ⟨tw_343, (List.forall_mem_cons.mpr ⟨tw_344, (List.forall_mem_cons.mpr ⟨tw_346, (List.forall_mem_cons.mpr ⟨tw_345, (List.forall_mem_cons.mpr ⟨tw_84, (List.forall_mem_cons.mpr ⟨tw_395, (List.forall_mem_cons.mpr ⟨tw_396, (List.forall_mem_cons.mpr ⟨tw_397, (List.forall_mem_cons.mpr ⟨tw_398, (List.forall_mem_cons.mpr ⟨tw_399, (List.forall_mem_cons.mpr ⟨tw_400, (List.forall_mem_cons.mpr ⟨tw_401, (List.forall_mem_cons.mpr ⟨tw_402, (List.forall_mem_cons.mpr ⟨tw_403, (fun _ h => absurd h List.not_mem_nil)⟩)⟩)⟩)⟩)⟩)⟩)⟩)⟩)⟩)⟩)⟩)⟩)⟩)⟩)⟩)⟩)⟩)⟩)⟩)⟩)⟩)⟩)⟩)⟩)
set_option maxRecDepth 100000 in
theorem tw_424 : Cond.methodLink RX0 82 yX7_needed ∈ lw_tbl := List.mem_append_right _ (List.mem_append_right _ (List.mem_append_left _ (List.mem_of_getElem? (i := 111) rfl)))
set_option maxRecDepth 100000 in
theorem tw_423 : Cond.code yX0_addRoundOfThree cX0_addRoundOfThree 11 none ∈ lw_tbl := List.mem_append_right _ (List.mem_append_right _ (List.mem_append_left _ (List.mem_of_getElem? (i := 110) rfl)))
set_option maxRecDepth 100000 in
theorem tw_6 : Cond.selects RX0 yX0_addRoundOfThree yX0_addRoundOfThree ∈ lw_tbl := List.mem_append_left _ (List.mem_of_getElem? (i := 6) rfl)
set_option maxRecDepth 100000 in
theorem tw_422 : Cond.instanceMethod yX0_addRoundOfThree ∈ lw_tbl := List.mem_append_right _ (List.mem_append_right _ (List.mem_append_left _ (List.mem_of_getElem? (i := 109) rfl)))
set_option maxRecDepth 100000 in
theorem tw_420 : Cond.methodLink RX0 78 yX0_addRoundOfThree ∈ lw_tbl := List.mem_append_right _ (List.mem_append_right _ (List.mem_append_left _ (List.mem_of_getElem? (i := 107) rfl)))
set_option maxRecDepth 100000 in
theorem tw_419 : Cond.code yX0_addRoundsOfThree cX0_addRoundsOfThree 4 none ∈ lw_tbl := List.mem_append_right _ (List.mem_append_right _ (List.mem_append_left _ (List.mem_of_getElem? (i := 106) rfl)))
set_option maxRecDepth 100000 in
theorem tw_5 : Cond.selects RX0 yX0_addRoundsOfThree yX0_addRoundsOfThree ∈ lw_tbl := List.mem_append_left _ (List.mem_of_getElem? (i := 5) rfl)
set_option maxRecDepth 100000 in
theorem tw_418 : Cond.instanceMethod yX0_addRoundsOfThree ∈ lw_tbl := List.mem_append_right _ (List.mem_append_right _ (List.mem_append_left _ (List.mem_of_getElem? (i := 105) rfl)))
set_option maxRecDepth 100000 in
theorem tw_416 : Cond.methodLink RX0 55 yX0_addRoundsOfThree ∈ lw_tbl := List.mem_append_right _ (List.mem_append_right _ (List.mem_append_left _ (List.mem_of_getElem? (i := 103) rfl)))
set_option maxRecDepth 100000 in
theorem tw_415 : Cond.code yX0_add cX0_add 5 none ∈ lw_tbl := List.mem_append_right _ (List.mem_append_right _ (List.mem_append_left _ (List.mem_of_getElem? (i := 102) rfl)))
set_option maxRecDepth 100000 in
theorem tw_4 : Cond.selects RX0 yX0_add yX0_add ∈ lw_tbl := List.mem_append_left _ (List.mem_of_getElem? (i := 4) rfl)
set_option maxRecDepth 100000 in
theorem tw_414 : Cond.instanceMethod yX0_add ∈ lw_tbl := List.mem_append_right _ (List.mem_append_right _ (List.mem_append_left _ (List.mem_of_getElem? (i := 101) rfl)))
set_option maxRecDepth 100000 in
theorem tw_412 : Cond.methodLink RX0 71 yX0_add ∈ lw_tbl := List.mem_append_right _ (List.mem_append_right _ (List.mem_append_left _ (List.mem_of_getElem? (i := 99) rfl)))
set_option maxRecDepth 100000 in
theorem tw_411 : Cond.methodLink RX0 74 yX4_gap ∈ lw_tbl := List.mem_append_right _ (List.mem_append_right _ (List.mem_append_left _ (List.mem_of_getElem? (i := 98) rfl)))
set_option maxRecDepth 100000 in
theorem tw_410 : Cond.code yX0_lookFrom cX0_lookFrom 3 none ∈ lw_tbl := List.mem_append_right _ (List.mem_append_right _ (List.mem_append_left _ (List.mem_of_getElem? (i := 97) rfl)))
set_option maxRecDepth 100000 in
theorem tw_3 : Cond.selects RX0 yX0_lookFrom yX0_lookFrom ∈ lw_tbl := List.mem_append_left _ (List.mem_of_getElem? (i := 3) rfl)
set_option maxRecDepth 100000 in
theorem tw_409 : Cond.instanceMethod yX0_lookFrom ∈ lw_tbl := List.mem_append_right _ (List.mem_append_right _ (List.mem_append_left _ (List.mem_of_getElem? (i := 96) rfl)))
set_option maxRecDepth 100000 in
theorem tw_407 : Cond.methodLink RX0 67 yX0_lookFrom ∈ lw_tbl := List.mem_append_right _ (List.mem_append_right _ (List.mem_append_left _ (List.mem_of_getElem? (i := 94) rfl)))
set_option maxRecDepth 100000 in
theorem tw_128 : Cond.fieldLink RX0 64 "TightHulls$Table" "size" "I" ∈ lw_tbl := List.mem_append_right _ (List.mem_append_left _ (List.mem_of_getElem? (i := 55) rfl))
set_option maxRecDepth 100000 in
theorem tw_406 : Cond.code yX0_addEyes cX0_addEyes 2 none ∈ lw_tbl := List.mem_append_right _ (List.mem_append_right _ (List.mem_append_left _ (List.mem_of_getElem? (i := 93) rfl)))
set_option maxRecDepth 100000 in
theorem tw_2 : Cond.selects RX0 yX0_addEyes yX0_addEyes ∈ lw_tbl := List.mem_append_left _ (List.mem_of_getElem? (i := 2) rfl)
set_option maxRecDepth 100000 in
theorem tw_405 : Cond.instanceMethod yX0_addEyes ∈ lw_tbl := List.mem_append_right _ (List.mem_append_right _ (List.mem_append_left _ (List.mem_of_getElem? (i := 92) rfl)))
set_option maxRecDepth 100000 in
theorem dl_wsX8_least_r4 : ∀ w ∈ wsX8_least_r4, w ∈ lw_tbl := (List.forall_mem_cons.mpr ⟨tw_405, (List.forall_mem_cons.mpr ⟨tw_2, (List.forall_mem_cons.mpr ⟨tw_406, (List.forall_mem_cons.mpr ⟨tw_128, (List.forall_mem_cons.mpr ⟨tw_407, (List.forall_mem_cons.mpr ⟨tw_409, (List.forall_mem_cons.mpr ⟨tw_3, (List.forall_mem_cons.mpr ⟨tw_410, (List.forall_mem_cons.mpr ⟨tw_227, (List.forall_mem_cons.mpr ⟨tw_411, (List.forall_mem_cons.mpr ⟨tw_412, (List.forall_mem_cons.mpr ⟨tw_414, (List.forall_mem_cons.mpr ⟨tw_4, (List.forall_mem_cons.mpr ⟨tw_415, (List.forall_mem_cons.mpr ⟨tw_228, (List.forall_mem_cons.mpr ⟨tw_416, (List.forall_mem_cons.mpr ⟨tw_418, (List.forall_mem_cons.mpr ⟨tw_5, (List.forall_mem_cons.mpr ⟨tw_419, (List.forall_mem_cons.mpr ⟨tw_420, (List.forall_mem_cons.mpr ⟨tw_422, (List.forall_mem_cons.mpr ⟨tw_6, (List.forall_mem_cons.mpr ⟨tw_423, (List.forall_mem_cons.mpr ⟨tw_424, (fun _ h => absurd h List.not_mem_nil)⟩)⟩)⟩)⟩)⟩)⟩)⟩)⟩)⟩)⟩)⟩)⟩)⟩)⟩)⟩)⟩)⟩)⟩)⟩)⟩)⟩)⟩)⟩)⟩)
set_option maxRecDepth 100000 in
theorem tw_447 : Cond.code yX0_number cX0_number 5 (some .int) ∈ lw_tbl := List.mem_append_right _ (List.mem_append_right _ (List.mem_append_left _ (List.mem_of_getElem? (i := 134) rfl)))
set_option maxRecDepth 100000 in
theorem tw_446 : Cond.selects RX0 yX0_number yX0_number ∈ lw_tbl := List.mem_append_right _ (List.mem_append_right _ (List.mem_append_left _ (List.mem_of_getElem? (i := 133) rfl)))
set_option maxRecDepth 100000 in
theorem tw_445 : Cond.instanceMethod yX0_number ∈ lw_tbl := List.mem_append_right _ (List.mem_append_right _ (List.mem_append_left _ (List.mem_of_getElem? (i := 132) rfl)))
set_option maxRecDepth 100000 in
theorem tw_444 : Cond.methodLink RX0 99 yX0_number ∈ lw_tbl := List.mem_append_right _ (List.mem_append_right _ (List.mem_append_left _ (List.mem_of_getElem? (i := 131) rfl)))
set_option maxRecDepth 100000 in
theorem tw_443 : Cond.code yX0_noteTwos cX0_noteTwos 3 none ∈ lw_tbl := List.mem_append_right _ (List.mem_append_right _ (List.mem_append_left _ (List.mem_of_getElem? (i := 130) rfl)))
set_option maxRecDepth 100000 in
theorem tw_10 : Cond.selects RX0 yX0_noteTwos yX0_noteTwos ∈ lw_tbl := List.mem_append_left _ (List.mem_of_getElem? (i := 10) rfl)
set_option maxRecDepth 100000 in
theorem tw_442 : Cond.instanceMethod yX0_noteTwos ∈ lw_tbl := List.mem_append_right _ (List.mem_append_right _ (List.mem_append_left _ (List.mem_of_getElem? (i := 129) rfl)))
set_option maxRecDepth 100000 in
theorem tw_440 : Cond.methodLink RX0 61 yX0_noteTwos ∈ lw_tbl := List.mem_append_right _ (List.mem_append_right _ (List.mem_append_left _ (List.mem_of_getElem? (i := 127) rfl)))
set_option maxRecDepth 100000 in
theorem tw_439 : Cond.code yX7_keepApart cX7_keepApart 4 (some .boolean) ∈ lw_tbl := List.mem_append_right _ (List.mem_append_right _ (List.mem_append_left _ (List.mem_of_getElem? (i := 126) rfl)))
set_option maxRecDepth 100000 in
theorem tw_438 : Cond.static yX7_keepApart ∈ lw_tbl := List.mem_append_right _ (List.mem_append_right _ (List.mem_append_left _ (List.mem_of_getElem? (i := 125) rfl)))
set_option maxRecDepth 100000 in
theorem tw_437 : Cond.methodLink RX0 95 yX7_keepApart ∈ lw_tbl := List.mem_append_right _ (List.mem_append_right _ (List.mem_append_left _ (List.mem_of_getElem? (i := 124) rfl)))
set_option maxRecDepth 100000 in
theorem tw_436 : Cond.code yX0_areNumbers cX0_areNumbers 2 (some .boolean) ∈ lw_tbl := List.mem_append_right _ (List.mem_append_right _ (List.mem_append_left _ (List.mem_of_getElem? (i := 123) rfl)))
set_option maxRecDepth 100000 in
theorem tw_9 : Cond.selects RX0 yX0_areNumbers yX0_areNumbers ∈ lw_tbl := List.mem_append_left _ (List.mem_of_getElem? (i := 9) rfl)
set_option maxRecDepth 100000 in
theorem tw_435 : Cond.instanceMethod yX0_areNumbers ∈ lw_tbl := List.mem_append_right _ (List.mem_append_right _ (List.mem_append_left _ (List.mem_of_getElem? (i := 122) rfl)))
set_option maxRecDepth 100000 in
theorem tw_433 : Cond.methodLink RX0 92 yX0_areNumbers ∈ lw_tbl := List.mem_append_right _ (List.mem_append_right _ (List.mem_append_left _ (List.mem_of_getElem? (i := 120) rfl)))
set_option maxRecDepth 100000 in
theorem tw_432 : Cond.code yX0_addRoundOfFive cX0_addRoundOfFive 10 none ∈ lw_tbl := List.mem_append_right _ (List.mem_append_right _ (List.mem_append_left _ (List.mem_of_getElem? (i := 119) rfl)))
set_option maxRecDepth 100000 in
theorem tw_8 : Cond.selects RX0 yX0_addRoundOfFive yX0_addRoundOfFive ∈ lw_tbl := List.mem_append_left _ (List.mem_of_getElem? (i := 8) rfl)
set_option maxRecDepth 100000 in
theorem tw_431 : Cond.instanceMethod yX0_addRoundOfFive ∈ lw_tbl := List.mem_append_right _ (List.mem_append_right _ (List.mem_append_left _ (List.mem_of_getElem? (i := 118) rfl)))
set_option maxRecDepth 100000 in
theorem tw_429 : Cond.methodLink RX0 88 yX0_addRoundOfFive ∈ lw_tbl := List.mem_append_right _ (List.mem_append_right _ (List.mem_append_left _ (List.mem_of_getElem? (i := 116) rfl)))
set_option maxRecDepth 100000 in
theorem tw_428 : Cond.code yX0_addRoundsOfFive cX0_addRoundsOfFive 5 none ∈ lw_tbl := List.mem_append_right _ (List.mem_append_right _ (List.mem_append_left _ (List.mem_of_getElem? (i := 115) rfl)))
set_option maxRecDepth 100000 in
theorem tw_7 : Cond.selects RX0 yX0_addRoundsOfFive yX0_addRoundsOfFive ∈ lw_tbl := List.mem_append_left _ (List.mem_of_getElem? (i := 7) rfl)
set_option maxRecDepth 100000 in
theorem tw_427 : Cond.instanceMethod yX0_addRoundsOfFive ∈ lw_tbl := List.mem_append_right _ (List.mem_append_right _ (List.mem_append_left _ (List.mem_of_getElem? (i := 114) rfl)))
set_option maxRecDepth 100000 in
theorem tw_425 : Cond.methodLink RX0 58 yX0_addRoundsOfFive ∈ lw_tbl := List.mem_append_right _ (List.mem_append_right _ (List.mem_append_left _ (List.mem_of_getElem? (i := 112) rfl)))
set_option maxRecDepth 100000 in
theorem dl_wsX8_least_r5 : ∀ w ∈ wsX8_least_r5, w ∈ lw_tbl := (List.forall_mem_cons.mpr ⟨tw_425, (List.forall_mem_cons.mpr ⟨tw_427, (List.forall_mem_cons.mpr ⟨tw_7, (List.forall_mem_cons.mpr ⟨tw_428, (List.forall_mem_cons.mpr ⟨tw_429, (List.forall_mem_cons.mpr ⟨tw_431, (List.forall_mem_cons.mpr ⟨tw_8, (List.forall_mem_cons.mpr ⟨tw_432, (List.forall_mem_cons.mpr ⟨tw_433, (List.forall_mem_cons.mpr ⟨tw_435, (List.forall_mem_cons.mpr ⟨tw_9, (List.forall_mem_cons.mpr ⟨tw_436, (List.forall_mem_cons.mpr ⟨tw_437, (List.forall_mem_cons.mpr ⟨tw_438, (List.forall_mem_cons.mpr ⟨tw_439, (List.forall_mem_cons.mpr ⟨tw_440, (List.forall_mem_cons.mpr ⟨tw_442, (List.forall_mem_cons.mpr ⟨tw_10, (List.forall_mem_cons.mpr ⟨tw_443, (List.forall_mem_cons.mpr ⟨tw_229, (List.forall_mem_cons.mpr ⟨tw_444, (List.forall_mem_cons.mpr ⟨tw_445, (List.forall_mem_cons.mpr ⟨tw_446, (List.forall_mem_cons.mpr ⟨tw_447, (fun _ h => absurd h List.not_mem_nil)⟩)⟩)⟩)⟩)⟩)⟩)⟩)⟩)⟩)⟩)⟩)⟩)⟩)⟩)⟩)⟩)⟩)⟩)⟩)⟩)⟩)⟩)⟩)⟩)
set_option maxRecDepth 100000 in
theorem tw_462 : Cond.methodLink RX2 90 yX0_number ∈ lw_tbl := List.mem_append_right _ (List.mem_append_right _ (List.mem_append_left _ (List.mem_of_getElem? (i := 149) rfl)))
set_option maxRecDepth 100000 in
theorem tw_461 : Cond.code yX2_takeCorner cX2_takeCorner 5 (some .int) ∈ lw_tbl := List.mem_append_right _ (List.mem_append_right _ (List.mem_append_left _ (List.mem_of_getElem? (i := 148) rfl)))
set_option maxRecDepth 100000 in
theorem tw_460 : Cond.selects RX2 yX2_takeCorner yX2_takeCorner ∈ lw_tbl := List.mem_append_right _ (List.mem_append_right _ (List.mem_append_left _ (List.mem_of_getElem? (i := 147) rfl)))
set_option maxRecDepth 100000 in
theorem tw_459 : Cond.instanceMethod yX2_takeCorner ∈ lw_tbl := List.mem_append_right _ (List.mem_append_right _ (List.mem_append_left _ (List.mem_of_getElem? (i := 146) rfl)))
set_option maxRecDepth 100000 in
theorem tw_458 : Cond.methodLink RX8 109 yX2_takeCorner ∈ lw_tbl := List.mem_append_right _ (List.mem_append_right _ (List.mem_append_left _ (List.mem_of_getElem? (i := 145) rfl)))
set_option maxRecDepth 100000 in
theorem tw_457 : Cond.methodLink RX8 310 yX0_has ∈ lw_tbl := List.mem_append_right _ (List.mem_append_right _ (List.mem_append_left _ (List.mem_of_getElem? (i := 144) rfl)))
set_option maxRecDepth 100000 in
theorem tw_456 : Cond.code yX7_tightTwos cX7_tightTwos 5 (some .int) ∈ lw_tbl := List.mem_append_right _ (List.mem_append_right _ (List.mem_append_left _ (List.mem_of_getElem? (i := 143) rfl)))
set_option maxRecDepth 100000 in
theorem tw_455 : Cond.static yX7_tightTwos ∈ lw_tbl := List.mem_append_right _ (List.mem_append_right _ (List.mem_append_left _ (List.mem_of_getElem? (i := 142) rfl)))
set_option maxRecDepth 100000 in
theorem tw_454 : Cond.methodLink RX0 102 yX7_tightTwos ∈ lw_tbl := List.mem_append_right _ (List.mem_append_right _ (List.mem_append_left _ (List.mem_of_getElem? (i := 141) rfl)))
set_option maxRecDepth 100000 in
theorem tw_452 : Cond.methodLink RX0 110 yX4_has ∈ lw_tbl := List.mem_append_right _ (List.mem_append_right _ (List.mem_append_left _ (List.mem_of_getElem? (i := 139) rfl)))
set_option maxRecDepth 100000 in
theorem tw_451 : Cond.code yX0_has cX0_has 2 (some .boolean) ∈ lw_tbl := List.mem_append_right _ (List.mem_append_right _ (List.mem_append_left _ (List.mem_of_getElem? (i := 138) rfl)))
set_option maxRecDepth 100000 in
theorem tw_450 : Cond.selects RX0 yX0_has yX0_has ∈ lw_tbl := List.mem_append_right _ (List.mem_append_right _ (List.mem_append_left _ (List.mem_of_getElem? (i := 137) rfl)))
set_option maxRecDepth 100000 in
theorem tw_449 : Cond.instanceMethod yX0_has ∈ lw_tbl := List.mem_append_right _ (List.mem_append_right _ (List.mem_append_left _ (List.mem_of_getElem? (i := 136) rfl)))
set_option maxRecDepth 100000 in
theorem tw_448 : Cond.methodLink RX0 106 yX0_has ∈ lw_tbl := List.mem_append_right _ (List.mem_append_right _ (List.mem_append_left _ (List.mem_of_getElem? (i := 135) rfl)))
set_option maxRecDepth 100000 in
theorem tw_453 : Cond.constantLong RX0 111 (127) ∈ lw_tbl := List.mem_append_right _ (List.mem_append_right _ (List.mem_append_left _ (List.mem_of_getElem? (i := 140) rfl)))
set_option maxRecDepth 100000 in
theorem dl_wsX8_least_r6 : ∀ w ∈ wsX8_least_r6, w ∈ lw_tbl := (List.forall_mem_cons.mpr ⟨tw_453, (List.forall_mem_cons.mpr ⟨tw_448, (List.forall_mem_cons.mpr ⟨tw_449, (List.forall_mem_cons.mpr ⟨tw_450, (List.forall_mem_cons.mpr ⟨tw_451, (List.forall_mem_cons.mpr ⟨tw_452, (List.forall_mem_cons.mpr ⟨tw_361, (List.forall_mem_cons.mpr ⟨tw_362, (List.forall_mem_cons.mpr ⟨tw_363, (List.forall_mem_cons.mpr ⟨tw_454, (List.forall_mem_cons.mpr ⟨tw_455, (List.forall_mem_cons.mpr ⟨tw_456, (List.forall_mem_cons.mpr ⟨tw_457, (List.forall_mem_cons.mpr ⟨tw_458, (List.forall_mem_cons.mpr ⟨tw_459, (List.forall_mem_cons.mpr ⟨tw_460, (List.forall_mem_cons.mpr ⟨tw_461, (List.forall_mem_cons.mpr ⟨tw_462, (fun _ h => absurd h List.not_mem_nil)⟩)⟩)⟩)⟩)⟩)⟩)⟩)⟩)⟩)⟩)⟩)⟩)⟩)⟩)⟩)⟩)⟩)⟩)
set_option maxRecDepth 100000 in
theorem dl_wsX8_least : ∀ w ∈ wsX8_least, w ∈ lw_tbl := (List.forall_mem_cons.mpr ⟨tw_367, (List.forall_mem_append.mpr ⟨(List.forall_mem_append.mpr ⟨(List.forall_mem_append.mpr ⟨(List.forall_mem_append.mpr ⟨(List.forall_mem_append.mpr ⟨dl_wsX8_least_r1, (List.forall_mem_append.mpr ⟨dl_wsX8_least_r2, (List.forall_mem_append.mpr ⟨dl_wsX8_least_r3, (List.forall_mem_append.mpr ⟨dl_wsX8_least_r4, (List.forall_mem_append.mpr ⟨dl_wsX8_least_r5, dl_wsX8_least_r6⟩)⟩)⟩)⟩)⟩), fu_wsX80⟩), fu_wsX20⟩), fu_wsX40⟩), fu_wsX00⟩)⟩)
set_option maxRecDepth 100000 in
theorem tw_366 : Cond.selects RX8 yX8_least yX8_least ∈ lw_tbl := List.mem_append_right _ (List.mem_append_right _ (List.mem_append_left _ (List.mem_of_getElem? (i := 53) rfl)))
set_option maxRecDepth 100000 in
theorem tw_365 : Cond.instanceMethod yX8_least ∈ lw_tbl := List.mem_append_right _ (List.mem_append_right _ (List.mem_append_left _ (List.mem_of_getElem? (i := 52) rfl)))
set_option maxRecDepth 100000 in
theorem tw_364 : Cond.methodLink RL 33 yX8_least ∈ lw_tbl := List.mem_append_right _ (List.mem_append_right _ (List.mem_append_left _ (List.mem_of_getElem? (i := 51) rfl)))
set_option maxRecDepth 100000 in
theorem tw_1056 : Cond.code yX9_least cX9_least 7 (some .int) ∈ lw_tbl := List.mem_append_right _ (List.mem_append_right _ (List.mem_append_right _ (List.mem_append_right _ (List.mem_append_right _ (List.mem_append_left _ (List.mem_of_getElem? (i := 23) rfl))))))
set_option maxRecDepth 100000 in
theorem tw_31 : Cond.selects RX9 yX9_layCorners yX9_layCorners ∈ lw_tbl := List.mem_append_left _ (List.mem_of_getElem? (i := 31) rfl)
set_option maxRecDepth 100000 in
theorem tw_1063 : Cond.instanceMethod yX9_layCorners ∈ lw_tbl := List.mem_append_right _ (List.mem_append_right _ (List.mem_append_right _ (List.mem_append_right _ (List.mem_append_right _ (List.mem_append_left _ (List.mem_of_getElem? (i := 30) rfl))))))
set_option maxRecDepth 100000 in
theorem tw_1061 : Cond.methodLink RX9 127 yX9_layCorners ∈ lw_tbl := List.mem_append_right _ (List.mem_append_right _ (List.mem_append_right _ (List.mem_append_right _ (List.mem_append_right _ (List.mem_append_left _ (List.mem_of_getElem? (i := 28) rfl))))))
set_option maxRecDepth 100000 in
theorem tw_1060 : Cond.code yX9_barred cX9_barred 4 (some .int) ∈ lw_tbl := List.mem_append_right _ (List.mem_append_right _ (List.mem_append_right _ (List.mem_append_right _ (List.mem_append_right _ (List.mem_append_left _ (List.mem_of_getElem? (i := 27) rfl))))))
set_option maxRecDepth 100000 in
theorem tw_30 : Cond.selects RX9 yX9_barred yX9_barred ∈ lw_tbl := List.mem_append_left _ (List.mem_of_getElem? (i := 30) rfl)
set_option maxRecDepth 100000 in
theorem tw_1059 : Cond.instanceMethod yX9_barred ∈ lw_tbl := List.mem_append_right _ (List.mem_append_right _ (List.mem_append_right _ (List.mem_append_right _ (List.mem_append_right _ (List.mem_append_left _ (List.mem_of_getElem? (i := 26) rfl))))))
set_option maxRecDepth 100000 in
theorem tw_1057 : Cond.methodLink RX9 124 yX9_barred ∈ lw_tbl := List.mem_append_right _ (List.mem_append_right _ (List.mem_append_right _ (List.mem_append_right _ (List.mem_append_right _ (List.mem_append_left _ (List.mem_of_getElem? (i := 24) rfl))))))
set_option maxRecDepth 100000 in
theorem tw_1085 : Cond.methodLink RX9 133 Lib.Math.max.name ∈ lw_tbl := List.mem_append_right _ (List.mem_append_right _ (List.mem_append_right _ (List.mem_append_right _ (List.mem_append_right _ (List.mem_append_left _ (List.mem_of_getElem? (i := 52) rfl))))))
set_option maxRecDepth 100000 in
theorem tw_930 : Cond.fieldLink RX9 130 "TightHullsModel" "corners" "I" ∈ lw_tbl := List.mem_append_right _ (List.mem_append_right _ (List.mem_append_right _ (List.mem_append_right _ (List.mem_append_left _ (List.mem_of_getElem? (i := 137) rfl)))))
set_option maxRecDepth 100000 in
theorem dl_wsX9_least_r1 : ∀ w ∈ wsX9_least_r1, w ∈ lw_tbl := (List.forall_mem_cons.mpr ⟨tw_930, (List.forall_mem_cons.mpr ⟨tw_907, (List.forall_mem_cons.mpr ⟨tw_931, (List.forall_mem_cons.mpr ⟨tw_909, (List.forall_mem_cons.mpr ⟨tw_1085, (List.forall_mem_cons.mpr ⟨tw_115, (List.forall_mem_cons.mpr ⟨tw_77, (List.forall_mem_cons.mpr ⟨tw_116, (List.forall_mem_cons.mpr ⟨tw_1017, (List.forall_mem_cons.mpr ⟨tw_1018, (List.forall_mem_cons.mpr ⟨tw_83, (List.forall_mem_cons.mpr ⟨tw_1019, (List.forall_mem_cons.mpr ⟨tw_1057, (List.forall_mem_cons.mpr ⟨tw_1059, (List.forall_mem_cons.mpr ⟨tw_30, (List.forall_mem_cons.mpr ⟨tw_1060, (List.forall_mem_cons.mpr ⟨tw_1036, (List.forall_mem_cons.mpr ⟨tw_1038, (List.forall_mem_cons.mpr ⟨tw_28, (List.forall_mem_cons.mpr ⟨tw_1039, (List.forall_mem_cons.mpr ⟨tw_908, (List.forall_mem_cons.mpr ⟨tw_1061, (List.forall_mem_cons.mpr ⟨tw_1063, (List.forall_mem_cons.mpr ⟨tw_31, (fun _ h => absurd h List.not_mem_nil)⟩)⟩)⟩)⟩)⟩)⟩)⟩)⟩)⟩)⟩)⟩)⟩)⟩)⟩)⟩)⟩)⟩)⟩)⟩)⟩)⟩)⟩)⟩)⟩)
set_option maxRecDepth 100000 in
theorem tw_1084 : Cond.code yX9_compared cX9_compared 3 (some .int) ∈ lw_tbl := List.mem_append_right _ (List.mem_append_right _ (List.mem_append_right _ (List.mem_append_right _ (List.mem_append_right _ (List.mem_append_left _ (List.mem_of_getElem? (i := 51) rfl))))))
set_option maxRecDepth 100000 in
theorem tw_36 : Cond.selects RX9 yX9_compared yX9_compared ∈ lw_tbl := List.mem_append_left _ (List.mem_of_getElem? (i := 36) rfl)
set_option maxRecDepth 100000 in
theorem tw_1083 : Cond.instanceMethod yX9_compared ∈ lw_tbl := List.mem_append_right _ (List.mem_append_right _ (List.mem_append_right _ (List.mem_append_right _ (List.mem_append_right _ (List.mem_append_left _ (List.mem_of_getElem? (i := 50) rfl))))))
set_option maxRecDepth 100000 in
theorem tw_1081 : Cond.methodLink RX9 200 yX9_compared ∈ lw_tbl := List.mem_append_right _ (List.mem_append_right _ (List.mem_append_right _ (List.mem_append_right _ (List.mem_append_right _ (List.mem_append_left _ (List.mem_of_getElem? (i := 48) rfl))))))
set_option maxRecDepth 100000 in
theorem tw_1080 : Cond.code yX9_cornerComes cX9_cornerComes 3 none ∈ lw_tbl := List.mem_append_right _ (List.mem_append_right _ (List.mem_append_right _ (List.mem_append_right _ (List.mem_append_right _ (List.mem_append_left _ (List.mem_of_getElem? (i := 47) rfl))))))
set_option maxRecDepth 100000 in
theorem tw_35 : Cond.selects RX9 yX9_cornerComes yX9_cornerComes ∈ lw_tbl := List.mem_append_left _ (List.mem_of_getElem? (i := 35) rfl)
set_option maxRecDepth 100000 in
theorem tw_1079 : Cond.instanceMethod yX9_cornerComes ∈ lw_tbl := List.mem_append_right _ (List.mem_append_right _ (List.mem_append_right _ (List.mem_append_right _ (List.mem_append_right _ (List.mem_append_left _ (List.mem_of_getElem? (i := 46) rfl))))))
set_option maxRecDepth 100000 in
theorem tw_1077 : Cond.methodLink RX9 206 yX9_cornerComes ∈ lw_tbl := List.mem_append_right _ (List.mem_append_right _ (List.mem_append_right _ (List.mem_append_right _ (List.mem_append_right _ (List.mem_append_left _ (List.mem_of_getElem? (i := 44) rfl))))))
set_option maxRecDepth 100000 in
theorem tw_1076 : Cond.code yX9_keeps cX9_keeps 5 (some .boolean) ∈ lw_tbl := List.mem_append_right _ (List.mem_append_right _ (List.mem_append_right _ (List.mem_append_right _ (List.mem_append_right _ (List.mem_append_left _ (List.mem_of_getElem? (i := 43) rfl))))))
set_option maxRecDepth 100000 in
theorem tw_34 : Cond.selects RX9 yX9_keeps yX9_keeps ∈ lw_tbl := List.mem_append_left _ (List.mem_of_getElem? (i := 34) rfl)
set_option maxRecDepth 100000 in
theorem tw_1075 : Cond.instanceMethod yX9_keeps ∈ lw_tbl := List.mem_append_right _ (List.mem_append_right _ (List.mem_append_right _ (List.mem_append_right _ (List.mem_append_right _ (List.mem_append_left _ (List.mem_of_getElem? (i := 42) rfl))))))
set_option maxRecDepth 100000 in
theorem tw_1073 : Cond.methodLink RX9 185 yX9_keeps ∈ lw_tbl := List.mem_append_right _ (List.mem_append_right _ (List.mem_append_right _ (List.mem_append_right _ (List.mem_append_right _ (List.mem_append_left _ (List.mem_of_getElem? (i := 40) rfl))))))
set_option maxRecDepth 100000 in
theorem tw_1072 : Cond.code yX9_tries cX9_tries 6 (some .boolean) ∈ lw_tbl := List.mem_append_right _ (List.mem_append_right _ (List.mem_append_right _ (List.mem_append_right _ (List.mem_append_right _ (List.mem_append_left _ (List.mem_of_getElem? (i := 39) rfl))))))
set_option maxRecDepth 100000 in
theorem tw_33 : Cond.selects RX9 yX9_tries yX9_tries ∈ lw_tbl := List.mem_append_left _ (List.mem_of_getElem? (i := 33) rfl)
set_option maxRecDepth 100000 in
theorem tw_1071 : Cond.instanceMethod yX9_tries ∈ lw_tbl := List.mem_append_right _ (List.mem_append_right _ (List.mem_append_right _ (List.mem_append_right _ (List.mem_append_right _ (List.mem_append_left _ (List.mem_of_getElem? (i := 38) rfl))))))
set_option maxRecDepth 100000 in
theorem tw_1069 : Cond.methodLink RX9 203 yX9_tries ∈ lw_tbl := List.mem_append_right _ (List.mem_append_right _ (List.mem_append_right _ (List.mem_append_right _ (List.mem_append_right _ (List.mem_append_left _ (List.mem_of_getElem? (i := 36) rfl))))))
set_option maxRecDepth 100000 in
theorem tw_1068 : Cond.code yX9_orders cX9_orders 3 (some .int) ∈ lw_tbl := List.mem_append_right _ (List.mem_append_right _ (List.mem_append_right _ (List.mem_append_right _ (List.mem_append_right _ (List.mem_append_left _ (List.mem_of_getElem? (i := 35) rfl))))))
set_option maxRecDepth 100000 in
theorem tw_32 : Cond.selects RX9 yX9_orders yX9_orders ∈ lw_tbl := List.mem_append_left _ (List.mem_of_getElem? (i := 32) rfl)
set_option maxRecDepth 100000 in
theorem tw_1067 : Cond.instanceMethod yX9_orders ∈ lw_tbl := List.mem_append_right _ (List.mem_append_right _ (List.mem_append_right _ (List.mem_append_right _ (List.mem_append_right _ (List.mem_append_left _ (List.mem_of_getElem? (i := 34) rfl))))))
set_option maxRecDepth 100000 in
theorem tw_1065 : Cond.methodLink RX9 144 yX9_orders ∈ lw_tbl := List.mem_append_right _ (List.mem_append_right _ (List.mem_append_right _ (List.mem_append_right _ (List.mem_append_right _ (List.mem_append_left _ (List.mem_of_getElem? (i := 32) rfl))))))
set_option maxRecDepth 100000 in
theorem tw_1064 : Cond.code yX9_layCorners cX9_layCorners 4 none ∈ lw_tbl := List.mem_append_right _ (List.mem_append_right _ (List.mem_append_right _ (List.mem_append_right _ (List.mem_append_right _ (List.mem_append_left _ (List.mem_of_getElem? (i := 31) rfl))))))
set_option maxRecDepth 100000 in
theorem dl_wsX9_least_r2 : ∀ w ∈ wsX9_least_r2, w ∈ lw_tbl := (List.forall_mem_cons.mpr ⟨tw_1064, (List.forall_mem_cons.mpr ⟨tw_932, (List.forall_mem_cons.mpr ⟨tw_1065, (List.forall_mem_cons.mpr ⟨tw_1067, (List.forall_mem_cons.mpr ⟨tw_32, (List.forall_mem_cons.mpr ⟨tw_1068, (List.forall_mem_cons.mpr ⟨tw_1069, (List.forall_mem_cons.mpr ⟨tw_1071, (List.forall_mem_cons.mpr ⟨tw_33, (List.forall_mem_cons.mpr ⟨tw_1072, (List.forall_mem_cons.mpr ⟨tw_933, (List.forall_mem_cons.mpr ⟨tw_1073, (List.forall_mem_cons.mpr ⟨tw_1075, (List.forall_mem_cons.mpr ⟨tw_34, (List.forall_mem_cons.mpr ⟨tw_1076, (List.forall_mem_cons.mpr ⟨tw_1077, (List.forall_mem_cons.mpr ⟨tw_1079, (List.forall_mem_cons.mpr ⟨tw_35, (List.forall_mem_cons.mpr ⟨tw_1080, (List.forall_mem_cons.mpr ⟨tw_1081, (List.forall_mem_cons.mpr ⟨tw_1083, (List.forall_mem_cons.mpr ⟨tw_36, (List.forall_mem_cons.mpr ⟨tw_1084, (fun _ h => absurd h List.not_mem_nil)⟩)⟩)⟩)⟩)⟩)⟩)⟩)⟩)⟩)⟩)⟩)⟩)⟩)⟩)⟩)⟩)⟩)⟩)⟩)⟩)⟩)⟩)⟩)
set_option maxRecDepth 100000 in
theorem dl_wsX9_least : ∀ w ∈ wsX9_least, w ∈ lw_tbl := (List.forall_mem_cons.mpr ⟨tw_1056, (List.forall_mem_append.mpr ⟨(List.forall_mem_append.mpr ⟨dl_wsX9_least_r1, dl_wsX9_least_r2⟩), fu_wsX90⟩)⟩)
set_option maxRecDepth 100000 in
theorem tw_1055 : Cond.selects RX9 yX9_least yX9_least ∈ lw_tbl := List.mem_append_right _ (List.mem_append_right _ (List.mem_append_right _ (List.mem_append_right _ (List.mem_append_right _ (List.mem_append_left _ (List.mem_of_getElem? (i := 22) rfl))))))
set_option maxRecDepth 100000 in
theorem tw_1054 : Cond.instanceMethod yX9_least ∈ lw_tbl := List.mem_append_right _ (List.mem_append_right _ (List.mem_append_right _ (List.mem_append_right _ (List.mem_append_right _ (List.mem_append_left _ (List.mem_of_getElem? (i := 21) rfl))))))
set_option maxRecDepth 100000 in
theorem tw_1053 : Cond.methodLink RL 36 yX9_least ∈ lw_tbl := List.mem_append_right _ (List.mem_append_right _ (List.mem_append_right _ (List.mem_append_right _ (List.mem_append_right _ (List.mem_append_left _ (List.mem_of_getElem? (i := 20) rfl))))))
set_option maxRecDepth 100000 in
theorem tw_466 : Cond.code yX8_map cX8_map 4 (some .int) ∈ lw_tbl := List.mem_append_right _ (List.mem_append_right _ (List.mem_append_left _ (List.mem_of_getElem? (i := 153) rfl)))
set_option maxRecDepth 100000 in
theorem tw_168 : Cond.fieldLink RX8 113 "TightHulls$Setup" "images" "[I" ∈ lw_tbl := List.mem_append_right _ (List.mem_append_left _ (List.mem_of_getElem? (i := 95) rfl))
set_option maxRecDepth 100000 in
theorem dl_wsX8_map : ∀ w ∈ wsX8_map, w ∈ lw_tbl := (List.forall_mem_cons.mpr ⟨tw_466, (List.forall_mem_append.mpr ⟨(List.forall_mem_append.mpr ⟨(List.forall_mem_append.mpr ⟨(List.forall_mem_cons.mpr ⟨tw_291, (List.forall_mem_cons.mpr ⟨tw_163, (List.forall_mem_cons.mpr ⟨tw_168, (List.forall_mem_cons.mpr ⟨tw_360, (List.forall_mem_cons.mpr ⟨tw_361, (List.forall_mem_cons.mpr ⟨tw_362, (List.forall_mem_cons.mpr ⟨tw_76, (List.forall_mem_cons.mpr ⟨tw_363, (List.forall_mem_cons.mpr ⟨tw_126, (fun _ h => absurd h List.not_mem_nil)⟩)⟩)⟩)⟩)⟩)⟩)⟩)⟩)⟩), fu_wsX80⟩), fu_wsX20⟩), fu_wsX40⟩)⟩)
set_option maxRecDepth 100000 in
theorem tw_465 : Cond.selects RX8 yX8_map yX8_map ∈ lw_tbl := List.mem_append_right _ (List.mem_append_right _ (List.mem_append_left _ (List.mem_of_getElem? (i := 152) rfl)))
set_option maxRecDepth 100000 in
theorem tw_464 : Cond.instanceMethod yX8_map ∈ lw_tbl := List.mem_append_right _ (List.mem_append_right _ (List.mem_append_left _ (List.mem_of_getElem? (i := 151) rfl)))
set_option maxRecDepth 100000 in
theorem tw_463 : Cond.methodLink RL 37 yX8_map ∈ lw_tbl := List.mem_append_right _ (List.mem_append_right _ (List.mem_append_left _ (List.mem_of_getElem? (i := 150) rfl)))
set_option maxRecDepth 100000 in
theorem tw_1089 : Cond.code yX9_map cX9_map 4 (some .int) ∈ lw_tbl := List.mem_append_right _ (List.mem_append_right _ (List.mem_append_right _ (List.mem_append_right _ (List.mem_append_right _ (List.mem_append_left _ (List.mem_of_getElem? (i := 56) rfl))))))
set_option maxRecDepth 100000 in
theorem dl_wsX9_map : ∀ w ∈ wsX9_map, w ∈ lw_tbl := (List.forall_mem_cons.mpr ⟨tw_1089, (List.forall_mem_append.mpr ⟨(List.forall_mem_cons.mpr ⟨tw_910, (List.forall_mem_cons.mpr ⟨tw_1032, (List.forall_mem_cons.mpr ⟨tw_1034, (List.forall_mem_cons.mpr ⟨tw_27, (List.forall_mem_cons.mpr ⟨tw_83, (List.forall_mem_cons.mpr ⟨tw_1035, (List.forall_mem_cons.mpr ⟨tw_907, (List.forall_mem_cons.mpr ⟨tw_1017, (List.forall_mem_cons.mpr ⟨tw_1018, (List.forall_mem_cons.mpr ⟨tw_1019, (fun _ h => absurd h List.not_mem_nil)⟩)⟩)⟩)⟩)⟩)⟩)⟩)⟩)⟩)⟩), fu_wsX90⟩)⟩)
set_option maxRecDepth 100000 in
theorem tw_1088 : Cond.selects RX9 yX9_map yX9_map ∈ lw_tbl := List.mem_append_right _ (List.mem_append_right _ (List.mem_append_right _ (List.mem_append_right _ (List.mem_append_right _ (List.mem_append_left _ (List.mem_of_getElem? (i := 55) rfl))))))
set_option maxRecDepth 100000 in
theorem tw_1087 : Cond.instanceMethod yX9_map ∈ lw_tbl := List.mem_append_right _ (List.mem_append_right _ (List.mem_append_right _ (List.mem_append_right _ (List.mem_append_right _ (List.mem_append_left _ (List.mem_of_getElem? (i := 54) rfl))))))
set_option maxRecDepth 100000 in
theorem tw_1086 : Cond.methodLink RL 40 yX9_map ∈ lw_tbl := List.mem_append_right _ (List.mem_append_right _ (List.mem_append_right _ (List.mem_append_right _ (List.mem_append_right _ (List.mem_append_left _ (List.mem_of_getElem? (i := 53) rfl))))))
set_option maxRecDepth 100000 in
theorem tw_470 : Cond.code yX8_feed cX8_feed 2 (some .int) ∈ lw_tbl := List.mem_append_right _ (List.mem_append_right _ (List.mem_append_left _ (List.mem_of_getElem? (i := 157) rfl)))
set_option maxRecDepth 100000 in
theorem tw_474 : Cond.code yX6_add cX6_add 2 (some .boolean) ∈ lw_tbl := List.mem_append_right _ (List.mem_append_right _ (List.mem_append_left _ (List.mem_of_getElem? (i := 161) rfl)))
set_option maxRecDepth 100000 in
theorem tw_473 : Cond.selects RX6 yX6_add yX6_add ∈ lw_tbl := List.mem_append_right _ (List.mem_append_right _ (List.mem_append_left _ (List.mem_of_getElem? (i := 160) rfl)))
set_option maxRecDepth 100000 in
theorem tw_472 : Cond.instanceMethod yX6_add ∈ lw_tbl := List.mem_append_right _ (List.mem_append_right _ (List.mem_append_left _ (List.mem_of_getElem? (i := 159) rfl)))
set_option maxRecDepth 100000 in
theorem tw_471 : Cond.methodLink RX8 116 yX6_add ∈ lw_tbl := List.mem_append_right _ (List.mem_append_right _ (List.mem_append_left _ (List.mem_of_getElem? (i := 158) rfl)))
set_option maxRecDepth 100000 in
theorem tw_258 : Cond.fieldLink RX8 119 "TightHulls$Text" "held" "I" ∈ lw_tbl := List.mem_append_right _ (List.mem_append_left _ (List.mem_of_getElem? (i := 185) rfl))
set_option maxRecDepth 100000 in
theorem dl_wsX8_feed : ∀ w ∈ wsX8_feed, w ∈ lw_tbl := (List.forall_mem_cons.mpr ⟨tw_470, (List.forall_mem_append.mpr ⟨(List.forall_mem_append.mpr ⟨(List.forall_mem_cons.mpr ⟨tw_297, (List.forall_mem_cons.mpr ⟨tw_258, (List.forall_mem_cons.mpr ⟨tw_471, (List.forall_mem_cons.mpr ⟨tw_472, (List.forall_mem_cons.mpr ⟨tw_473, (List.forall_mem_cons.mpr ⟨tw_81, (List.forall_mem_cons.mpr ⟨tw_474, (List.forall_mem_cons.mpr ⟨tw_257, (List.forall_mem_cons.mpr ⟨tw_256, (fun _ h => absurd h List.not_mem_nil)⟩)⟩)⟩)⟩)⟩)⟩)⟩)⟩)⟩), fu_wsX80⟩), fu_wsX60⟩)⟩)
set_option maxRecDepth 100000 in
theorem tw_469 : Cond.selects RX8 yX8_feed yX8_feed ∈ lw_tbl := List.mem_append_right _ (List.mem_append_right _ (List.mem_append_left _ (List.mem_of_getElem? (i := 156) rfl)))
set_option maxRecDepth 100000 in
theorem tw_468 : Cond.instanceMethod yX8_feed ∈ lw_tbl := List.mem_append_right _ (List.mem_append_right _ (List.mem_append_left _ (List.mem_of_getElem? (i := 155) rfl)))
set_option maxRecDepth 100000 in
theorem tw_467 : Cond.methodLink RL 41 yX8_feed ∈ lw_tbl := List.mem_append_right _ (List.mem_append_right _ (List.mem_append_left _ (List.mem_of_getElem? (i := 154) rfl)))
set_option maxRecDepth 100000 in
theorem tw_1297 : Cond.code yX9_feed cX9_feed 2 (some .int) ∈ lw_tbl := List.mem_append_right _ (List.mem_append_right _ (List.mem_append_right _ (List.mem_append_right _ (List.mem_append_right _ (List.mem_append_right _ (List.mem_of_getElem? (i := 24) rfl))))))
set_option maxRecDepth 100000 in
theorem tw_922 : Cond.fieldLink RX9 261 "TightHullsModel" "texts" "I" ∈ lw_tbl := List.mem_append_right _ (List.mem_append_right _ (List.mem_append_right _ (List.mem_append_right _ (List.mem_append_left _ (List.mem_of_getElem? (i := 129) rfl)))))
set_option maxRecDepth 100000 in
theorem dl_wsX9_feed : ∀ w ∈ wsX9_feed, w ∈ lw_tbl := (List.forall_mem_cons.mpr ⟨tw_1297, (List.forall_mem_append.mpr ⟨(List.forall_mem_cons.mpr ⟨tw_922, (List.forall_mem_cons.mpr ⟨tw_921, (List.forall_mem_cons.mpr ⟨tw_1017, (List.forall_mem_cons.mpr ⟨tw_1018, (List.forall_mem_cons.mpr ⟨tw_83, (List.forall_mem_cons.mpr ⟨tw_1019, (fun _ h => absurd h List.not_mem_nil)⟩)⟩)⟩)⟩)⟩)⟩), fu_wsX90⟩)⟩)
set_option maxRecDepth 100000 in
theorem tw_1296 : Cond.selects RX9 yX9_feed yX9_feed ∈ lw_tbl := List.mem_append_right _ (List.mem_append_right _ (List.mem_append_right _ (List.mem_append_right _ (List.mem_append_right _ (List.mem_append_right _ (List.mem_of_getElem? (i := 23) rfl))))))
set_option maxRecDepth 100000 in
theorem tw_1295 : Cond.instanceMethod yX9_feed ∈ lw_tbl := List.mem_append_right _ (List.mem_append_right _ (List.mem_append_right _ (List.mem_append_right _ (List.mem_append_right _ (List.mem_append_right _ (List.mem_of_getElem? (i := 22) rfl))))))
set_option maxRecDepth 100000 in
theorem tw_1294 : Cond.methodLink RL 44 yX9_feed ∈ lw_tbl := List.mem_append_right _ (List.mem_append_right _ (List.mem_append_right _ (List.mem_append_right _ (List.mem_append_right _ (List.mem_append_right _ (List.mem_of_getElem? (i := 21) rfl))))))
set_option maxRecDepth 100000 in
theorem tw_478 : Cond.code yX8_read cX8_read 3 (some .int) ∈ lw_tbl := List.mem_append_right _ (List.mem_append_right _ (List.mem_append_left _ (List.mem_of_getElem? (i := 165) rfl)))
set_option maxRecDepth 100000 in
theorem tw_495 : Cond.methodLink RX6 83 yX6_isDigit ∈ lw_tbl := List.mem_append_right _ (List.mem_append_right _ (List.mem_append_left _ (List.mem_of_getElem? (i := 182) rfl)))
set_option maxRecDepth 100000 in
theorem tw_494 : Cond.code yX6_pastDigits cX6_pastDigits 5 (some .int) ∈ lw_tbl := List.mem_append_right _ (List.mem_append_right _ (List.mem_append_left _ (List.mem_of_getElem? (i := 181) rfl)))
set_option maxRecDepth 100000 in
theorem tw_13 : Cond.selects RX6 yX6_pastDigits yX6_pastDigits ∈ lw_tbl := List.mem_append_left _ (List.mem_of_getElem? (i := 13) rfl)
set_option maxRecDepth 100000 in
theorem tw_493 : Cond.instanceMethod yX6_pastDigits ∈ lw_tbl := List.mem_append_right _ (List.mem_append_right _ (List.mem_append_left _ (List.mem_of_getElem? (i := 180) rfl)))
set_option maxRecDepth 100000 in
theorem tw_491 : Cond.methodLink RX6 76 yX6_pastDigits ∈ lw_tbl := List.mem_append_right _ (List.mem_append_right _ (List.mem_append_left _ (List.mem_of_getElem? (i := 178) rfl)))
set_option maxRecDepth 100000 in
theorem tw_490 : Cond.code yX6_signAt cX6_signAt 2 (some .int) ∈ lw_tbl := List.mem_append_right _ (List.mem_append_right _ (List.mem_append_left _ (List.mem_of_getElem? (i := 177) rfl)))
set_option maxRecDepth 100000 in
theorem tw_12 : Cond.selects RX6 yX6_signAt yX6_signAt ∈ lw_tbl := List.mem_append_left _ (List.mem_of_getElem? (i := 12) rfl)
set_option maxRecDepth 100000 in
theorem tw_489 : Cond.instanceMethod yX6_signAt ∈ lw_tbl := List.mem_append_right _ (List.mem_append_right _ (List.mem_append_left _ (List.mem_of_getElem? (i := 176) rfl)))
set_option maxRecDepth 100000 in
theorem tw_487 : Cond.methodLink RX6 31 yX6_signAt ∈ lw_tbl := List.mem_append_right _ (List.mem_append_right _ (List.mem_append_left _ (List.mem_of_getElem? (i := 174) rfl)))
set_option maxRecDepth 100000 in
theorem tw_486 : Cond.code yX6_pastClause cX6_pastClause 2 (some .int) ∈ lw_tbl := List.mem_append_right _ (List.mem_append_right _ (List.mem_append_left _ (List.mem_of_getElem? (i := 173) rfl)))
set_option maxRecDepth 100000 in
theorem tw_11 : Cond.selects RX6 yX6_pastClause yX6_pastClause ∈ lw_tbl := List.mem_append_left _ (List.mem_of_getElem? (i := 11) rfl)
set_option maxRecDepth 100000 in
theorem tw_485 : Cond.instanceMethod yX6_pastClause ∈ lw_tbl := List.mem_append_right _ (List.mem_append_right _ (List.mem_append_left _ (List.mem_of_getElem? (i := 172) rfl)))
set_option maxRecDepth 100000 in
theorem tw_483 : Cond.methodLink RX6 24 yX6_pastClause ∈ lw_tbl := List.mem_append_right _ (List.mem_append_right _ (List.mem_append_left _ (List.mem_of_getElem? (i := 170) rfl)))
set_option maxRecDepth 100000 in
theorem tw_482 : Cond.code yX6_firstFault cX6_firstFault 4 (some .int) ∈ lw_tbl := List.mem_append_right _ (List.mem_append_right _ (List.mem_append_left _ (List.mem_of_getElem? (i := 169) rfl)))
set_option maxRecDepth 100000 in
theorem tw_481 : Cond.selects RX6 yX6_firstFault yX6_firstFault ∈ lw_tbl := List.mem_append_right _ (List.mem_append_right _ (List.mem_append_left _ (List.mem_of_getElem? (i := 168) rfl)))
set_option maxRecDepth 100000 in
theorem tw_480 : Cond.instanceMethod yX6_firstFault ∈ lw_tbl := List.mem_append_right _ (List.mem_append_right _ (List.mem_append_left _ (List.mem_of_getElem? (i := 167) rfl)))
set_option maxRecDepth 100000 in
theorem tw_479 : Cond.methodLink RX8 122 yX6_firstFault ∈ lw_tbl := List.mem_append_right _ (List.mem_append_right _ (List.mem_append_left _ (List.mem_of_getElem? (i := 166) rfl)))
set_option maxRecDepth 100000 in
theorem dl_wsX8_read_r1 : ∀ w ∈ wsX8_read_r1, w ∈ lw_tbl := (List.forall_mem_cons.mpr ⟨tw_297, (List.forall_mem_cons.mpr ⟨tw_291, (List.forall_mem_cons.mpr ⟨tw_479, (List.forall_mem_cons.mpr ⟨tw_480, (List.forall_mem_cons.mpr ⟨tw_481, (List.forall_mem_cons.mpr ⟨tw_81, (List.forall_mem_cons.mpr ⟨tw_482, (List.forall_mem_cons.mpr ⟨tw_260, (List.forall_mem_cons.mpr ⟨tw_259, (List.forall_mem_cons.mpr ⟨tw_257, (List.forall_mem_cons.mpr ⟨tw_483, (List.forall_mem_cons.mpr ⟨tw_485, (List.forall_mem_cons.mpr ⟨tw_11, (List.forall_mem_cons.mpr ⟨tw_486, (List.forall_mem_cons.mpr ⟨tw_487, (List.forall_mem_cons.mpr ⟨tw_489, (List.forall_mem_cons.mpr ⟨tw_12, (List.forall_mem_cons.mpr ⟨tw_490, (List.forall_mem_cons.mpr ⟨tw_256, (List.forall_mem_cons.mpr ⟨tw_491, (List.forall_mem_cons.mpr ⟨tw_493, (List.forall_mem_cons.mpr ⟨tw_13, (List.forall_mem_cons.mpr ⟨tw_494, (List.forall_mem_cons.mpr ⟨tw_495, (fun _ h => absurd h List.not_mem_nil)⟩)⟩)⟩)⟩)⟩)⟩)⟩)⟩)⟩)⟩)⟩)⟩)⟩)⟩)⟩)⟩)⟩)⟩)⟩)⟩)⟩)⟩)⟩)⟩)
set_option maxRecDepth 100000 in
theorem tw_517 : Cond.methodLink RX6 41 yX2_begin ∈ lw_tbl := List.mem_append_right _ (List.mem_append_right _ (List.mem_append_left _ (List.mem_of_getElem? (i := 204) rfl)))
set_option maxRecDepth 100000 in
theorem tw_516 : Cond.code yX6_digitAt cX6_digitAt 3 (some .int) ∈ lw_tbl := List.mem_append_right _ (List.mem_append_right _ (List.mem_append_left _ (List.mem_of_getElem? (i := 203) rfl)))
set_option maxRecDepth 100000 in
theorem tw_16 : Cond.selects RX6 yX6_digitAt yX6_digitAt ∈ lw_tbl := List.mem_append_left _ (List.mem_of_getElem? (i := 16) rfl)
set_option maxRecDepth 100000 in
theorem tw_515 : Cond.instanceMethod yX6_digitAt ∈ lw_tbl := List.mem_append_right _ (List.mem_append_right _ (List.mem_append_left _ (List.mem_of_getElem? (i := 202) rfl)))
set_option maxRecDepth 100000 in
theorem tw_513 : Cond.methodLink RX6 38 yX6_digitAt ∈ lw_tbl := List.mem_append_right _ (List.mem_append_right _ (List.mem_append_left _ (List.mem_of_getElem? (i := 200) rfl)))
set_option maxRecDepth 100000 in
theorem tw_164 : Cond.fieldLink RX6 63 "TightHulls$Setup" "table" "LTightHulls$Table;" ∈ lw_tbl := List.mem_append_right _ (List.mem_append_left _ (List.mem_of_getElem? (i := 91) rfl))
set_option maxRecDepth 100000 in
theorem tw_512 : Cond.code yX6_doClause cX6_doClause 4 (some .boolean) ∈ lw_tbl := List.mem_append_right _ (List.mem_append_right _ (List.mem_append_left _ (List.mem_of_getElem? (i := 199) rfl)))
set_option maxRecDepth 100000 in
theorem tw_15 : Cond.selects RX6 yX6_doClause yX6_doClause ∈ lw_tbl := List.mem_append_left _ (List.mem_of_getElem? (i := 15) rfl)
set_option maxRecDepth 100000 in
theorem tw_511 : Cond.instanceMethod yX6_doClause ∈ lw_tbl := List.mem_append_right _ (List.mem_append_right _ (List.mem_append_left _ (List.mem_of_getElem? (i := 198) rfl)))
set_option maxRecDepth 100000 in
theorem tw_509 : Cond.methodLink RX6 34 yX6_doClause ∈ lw_tbl := List.mem_append_right _ (List.mem_append_right _ (List.mem_append_left _ (List.mem_of_getElem? (i := 196) rfl)))
set_option maxRecDepth 100000 in
theorem tw_508 : Cond.code yX6_carryOut cX6_carryOut 4 (some .int) ∈ lw_tbl := List.mem_append_right _ (List.mem_append_right _ (List.mem_append_left _ (List.mem_of_getElem? (i := 195) rfl)))
set_option maxRecDepth 100000 in
theorem tw_507 : Cond.selects RX6 yX6_carryOut yX6_carryOut ∈ lw_tbl := List.mem_append_right _ (List.mem_append_right _ (List.mem_append_left _ (List.mem_of_getElem? (i := 194) rfl)))
set_option maxRecDepth 100000 in
theorem tw_506 : Cond.instanceMethod yX6_carryOut ∈ lw_tbl := List.mem_append_right _ (List.mem_append_right _ (List.mem_append_left _ (List.mem_of_getElem? (i := 193) rfl)))
set_option maxRecDepth 100000 in
theorem tw_505 : Cond.methodLink RX8 125 yX6_carryOut ∈ lw_tbl := List.mem_append_right _ (List.mem_append_right _ (List.mem_append_left _ (List.mem_of_getElem? (i := 192) rfl)))
set_option maxRecDepth 100000 in
theorem tw_504 : Cond.code yX6_pastSetApart cX6_pastSetApart 3 (some .int) ∈ lw_tbl := List.mem_append_right _ (List.mem_append_right _ (List.mem_append_left _ (List.mem_of_getElem? (i := 191) rfl)))
set_option maxRecDepth 100000 in
theorem tw_14 : Cond.selects RX6 yX6_pastSetApart yX6_pastSetApart ∈ lw_tbl := List.mem_append_left _ (List.mem_of_getElem? (i := 14) rfl)
set_option maxRecDepth 100000 in
theorem tw_503 : Cond.instanceMethod yX6_pastSetApart ∈ lw_tbl := List.mem_append_right _ (List.mem_append_right _ (List.mem_append_left _ (List.mem_of_getElem? (i := 190) rfl)))
set_option maxRecDepth 100000 in
theorem tw_501 : Cond.methodLink RX6 80 yX6_pastSetApart ∈ lw_tbl := List.mem_append_right _ (List.mem_append_right _ (List.mem_append_left _ (List.mem_of_getElem? (i := 188) rfl)))
set_option maxRecDepth 100000 in
theorem tw_500 : Cond.code yX6_turned cX6_turned 1 (some .int) ∈ lw_tbl := List.mem_append_right _ (List.mem_append_right _ (List.mem_append_left _ (List.mem_of_getElem? (i := 187) rfl)))
set_option maxRecDepth 100000 in
theorem tw_499 : Cond.static yX6_turned ∈ lw_tbl := List.mem_append_right _ (List.mem_append_right _ (List.mem_append_left _ (List.mem_of_getElem? (i := 186) rfl)))
set_option maxRecDepth 100000 in
theorem tw_498 : Cond.methodLink RX6 28 yX6_turned ∈ lw_tbl := List.mem_append_right _ (List.mem_append_right _ (List.mem_append_left _ (List.mem_of_getElem? (i := 185) rfl)))
set_option maxRecDepth 100000 in
theorem tw_497 : Cond.code yX6_isDigit cX6_isDigit 1 (some .boolean) ∈ lw_tbl := List.mem_append_right _ (List.mem_append_right _ (List.mem_append_left _ (List.mem_of_getElem? (i := 184) rfl)))
set_option maxRecDepth 100000 in
theorem tw_496 : Cond.static yX6_isDigit ∈ lw_tbl := List.mem_append_right _ (List.mem_append_right _ (List.mem_append_left _ (List.mem_of_getElem? (i := 183) rfl)))
set_option maxRecDepth 100000 in
theorem dl_wsX8_read_r2 : ∀ w ∈ wsX8_read_r2, w ∈ lw_tbl := (List.forall_mem_cons.mpr ⟨tw_496, (List.forall_mem_cons.mpr ⟨tw_497, (List.forall_mem_cons.mpr ⟨tw_498, (List.forall_mem_cons.mpr ⟨tw_499, (List.forall_mem_cons.mpr ⟨tw_500, (List.forall_mem_cons.mpr ⟨tw_501, (List.forall_mem_cons.mpr ⟨tw_503, (List.forall_mem_cons.mpr ⟨tw_14, (List.forall_mem_cons.mpr ⟨tw_504, (List.forall_mem_cons.mpr ⟨tw_505, (List.forall_mem_cons.mpr ⟨tw_506, (List.forall_mem_cons.mpr ⟨tw_507, (List.forall_mem_cons.mpr ⟨tw_508, (List.forall_mem_cons.mpr ⟨tw_509, (List.forall_mem_cons.mpr ⟨tw_511, (List.forall_mem_cons.mpr ⟨tw_15, (List.forall_mem_cons.mpr ⟨tw_512, (List.forall_mem_cons.mpr ⟨tw_164, (List.forall_mem_cons.mpr ⟨tw_513, (List.forall_mem_cons.mpr ⟨tw_515, (List.forall_mem_cons.mpr ⟨tw_16, (List.forall_mem_cons.mpr ⟨tw_516, (List.forall_mem_cons.mpr ⟨tw_517, (List.forall_mem_cons.mpr ⟨tw_158, (fun _ h => absurd h List.not_mem_nil)⟩)⟩)⟩)⟩)⟩)⟩)⟩)⟩)⟩)⟩)⟩)⟩)⟩)⟩)⟩)⟩)⟩)⟩)⟩)⟩)⟩)⟩)⟩)⟩)
set_option maxRecDepth 100000 in
theorem dl_wsX8_read_r3 : ∀ w ∈ wsX8_read_r3, w ∈ lw_tbl := (List.forall_mem_cons.mpr ⟨tw_159, (List.forall_mem_cons.mpr ⟨tw_75, (List.forall_mem_cons.mpr ⟨tw_160, (List.forall_mem_cons.mpr ⟨tw_162, (List.forall_mem_cons.mpr ⟨tw_165, (List.forall_mem_cons.mpr ⟨tw_167, (List.forall_mem_cons.mpr ⟨tw_161, (List.forall_mem_cons.mpr ⟨tw_108, (List.forall_mem_cons.mpr ⟨tw_109, (List.forall_mem_cons.mpr ⟨tw_76, (List.forall_mem_cons.mpr ⟨tw_110, (List.forall_mem_cons.mpr ⟨tw_111, (List.forall_mem_cons.mpr ⟨tw_112, (List.forall_mem_cons.mpr ⟨tw_77, (List.forall_mem_cons.mpr ⟨tw_113, (List.forall_mem_cons.mpr ⟨tw_114, (List.forall_mem_cons.mpr ⟨tw_115, (List.forall_mem_cons.mpr ⟨tw_116, (List.forall_mem_cons.mpr ⟨tw_126, (List.forall_mem_cons.mpr ⟨tw_117, (List.forall_mem_cons.mpr ⟨tw_118, (List.forall_mem_cons.mpr ⟨tw_119, (List.forall_mem_cons.mpr ⟨tw_120, (List.forall_mem_cons.mpr ⟨tw_131, (fun _ h => absurd h List.not_mem_nil)⟩)⟩)⟩)⟩)⟩)⟩)⟩)⟩)⟩)⟩)⟩)⟩)⟩)⟩)⟩)⟩)⟩)⟩)⟩)⟩)⟩)⟩)⟩)⟩)
set_option maxRecDepth 100000 in
theorem tw_532 : Cond.methodLink RX2 76 Lib.Math.min.name ∈ lw_tbl := List.mem_append_right _ (List.mem_append_right _ (List.mem_append_left _ (List.mem_of_getElem? (i := 219) rfl)))
set_option maxRecDepth 100000 in
theorem tw_530 : Cond.code yX2_setApart cX2_setApart 5 (some .boolean) ∈ lw_tbl := List.mem_append_right _ (List.mem_append_right _ (List.mem_append_left _ (List.mem_of_getElem? (i := 217) rfl)))
set_option maxRecDepth 100000 in
theorem tw_529 : Cond.selects RX2 yX2_setApart yX2_setApart ∈ lw_tbl := List.mem_append_right _ (List.mem_append_right _ (List.mem_append_left _ (List.mem_of_getElem? (i := 216) rfl)))
set_option maxRecDepth 100000 in
theorem tw_528 : Cond.instanceMethod yX2_setApart ∈ lw_tbl := List.mem_append_right _ (List.mem_append_right _ (List.mem_append_left _ (List.mem_of_getElem? (i := 215) rfl)))
set_option maxRecDepth 100000 in
theorem tw_527 : Cond.methodLink RX6 72 yX2_setApart ∈ lw_tbl := List.mem_append_right _ (List.mem_append_right _ (List.mem_append_left _ (List.mem_of_getElem? (i := 214) rfl)))
set_option maxRecDepth 100000 in
theorem tw_526 : Cond.code yX6_doSetApart cX6_doSetApart 6 (some .boolean) ∈ lw_tbl := List.mem_append_right _ (List.mem_append_right _ (List.mem_append_left _ (List.mem_of_getElem? (i := 213) rfl)))
set_option maxRecDepth 100000 in
theorem tw_18 : Cond.selects RX6 yX6_doSetApart yX6_doSetApart ∈ lw_tbl := List.mem_append_left _ (List.mem_of_getElem? (i := 18) rfl)
set_option maxRecDepth 100000 in
theorem tw_525 : Cond.instanceMethod yX6_doSetApart ∈ lw_tbl := List.mem_append_right _ (List.mem_append_right _ (List.mem_append_left _ (List.mem_of_getElem? (i := 212) rfl)))
set_option maxRecDepth 100000 in
theorem tw_523 : Cond.methodLink RX6 55 yX6_doSetApart ∈ lw_tbl := List.mem_append_right _ (List.mem_append_right _ (List.mem_append_left _ (List.mem_of_getElem? (i := 210) rfl)))
set_option maxRecDepth 100000 in
theorem tw_522 : Cond.methodLink RX6 51 yX2_place ∈ lw_tbl := List.mem_append_right _ (List.mem_append_right _ (List.mem_append_left _ (List.mem_of_getElem? (i := 209) rfl)))
set_option maxRecDepth 100000 in
theorem tw_521 : Cond.code yX6_numberAt cX6_numberAt 5 (some .int) ∈ lw_tbl := List.mem_append_right _ (List.mem_append_right _ (List.mem_append_left _ (List.mem_of_getElem? (i := 208) rfl)))
set_option maxRecDepth 100000 in
theorem tw_17 : Cond.selects RX6 yX6_numberAt yX6_numberAt ∈ lw_tbl := List.mem_append_left _ (List.mem_of_getElem? (i := 17) rfl)
set_option maxRecDepth 100000 in
theorem tw_520 : Cond.instanceMethod yX6_numberAt ∈ lw_tbl := List.mem_append_right _ (List.mem_append_right _ (List.mem_append_left _ (List.mem_of_getElem? (i := 207) rfl)))
set_option maxRecDepth 100000 in
theorem tw_518 : Cond.methodLink RX6 47 yX6_numberAt ∈ lw_tbl := List.mem_append_right _ (List.mem_append_right _ (List.mem_append_left _ (List.mem_of_getElem? (i := 205) rfl)))
set_option maxRecDepth 100000 in
theorem dl_wsX8_read_r4 : ∀ w ∈ wsX8_read_r4, w ∈ lw_tbl := (List.forall_mem_cons.mpr ⟨tw_121, (List.forall_mem_cons.mpr ⟨tw_122, (List.forall_mem_cons.mpr ⟨tw_123, (List.forall_mem_cons.mpr ⟨tw_124, (List.forall_mem_cons.mpr ⟨tw_518, (List.forall_mem_cons.mpr ⟨tw_520, (List.forall_mem_cons.mpr ⟨tw_17, (List.forall_mem_cons.mpr ⟨tw_521, (List.forall_mem_cons.mpr ⟨tw_522, (List.forall_mem_cons.mpr ⟨tw_331, (List.forall_mem_cons.mpr ⟨tw_332, (List.forall_mem_cons.mpr ⟨tw_333, (List.forall_mem_cons.mpr ⟨tw_334, (List.forall_mem_cons.mpr ⟨tw_335, (List.forall_mem_cons.mpr ⟨tw_523, (List.forall_mem_cons.mpr ⟨tw_525, (List.forall_mem_cons.mpr ⟨tw_18, (List.forall_mem_cons.mpr ⟨tw_526, (List.forall_mem_cons.mpr ⟨tw_527, (List.forall_mem_cons.mpr ⟨tw_528, (List.forall_mem_cons.mpr ⟨tw_529, (List.forall_mem_cons.mpr ⟨tw_530, (List.forall_mem_cons.mpr ⟨tw_129, (List.forall_mem_cons.mpr ⟨tw_532, (fun _ h => absurd h List.not_mem_nil)⟩)⟩)⟩)⟩)⟩)⟩)⟩)⟩)⟩)⟩)⟩)⟩)⟩)⟩)⟩)⟩)⟩)⟩)⟩)⟩)⟩)⟩)⟩)⟩)
set_option maxRecDepth 100000 in
theorem tw_541 : Cond.code yX6_empty cX6_empty 1 none ∈ lw_tbl := List.mem_append_right _ (List.mem_append_right _ (List.mem_append_left _ (List.mem_of_getElem? (i := 228) rfl)))
set_option maxRecDepth 100000 in
theorem tw_540 : Cond.selects RX6 yX6_empty yX6_empty ∈ lw_tbl := List.mem_append_right _ (List.mem_append_right _ (List.mem_append_left _ (List.mem_of_getElem? (i := 227) rfl)))
set_option maxRecDepth 100000 in
theorem tw_539 : Cond.instanceMethod yX6_empty ∈ lw_tbl := List.mem_append_right _ (List.mem_append_right _ (List.mem_append_left _ (List.mem_of_getElem? (i := 226) rfl)))
set_option maxRecDepth 100000 in
theorem tw_538 : Cond.methodLink RX8 129 yX6_empty ∈ lw_tbl := List.mem_append_right _ (List.mem_append_right _ (List.mem_append_left _ (List.mem_of_getElem? (i := 225) rfl)))
set_option maxRecDepth 100000 in
theorem tw_537 : Cond.methodLink RX6 67 yX4_takeShortWays ∈ lw_tbl := List.mem_append_right _ (List.mem_append_right _ (List.mem_append_left _ (List.mem_of_getElem? (i := 224) rfl)))
set_option maxRecDepth 100000 in
theorem tw_536 : Cond.code yX2_multiply cX2_multiply 4 none ∈ lw_tbl := List.mem_append_right _ (List.mem_append_right _ (List.mem_append_left _ (List.mem_of_getElem? (i := 223) rfl)))
set_option maxRecDepth 100000 in
theorem tw_535 : Cond.selects RX2 yX2_multiply yX2_multiply ∈ lw_tbl := List.mem_append_right _ (List.mem_append_right _ (List.mem_append_left _ (List.mem_of_getElem? (i := 222) rfl)))
set_option maxRecDepth 100000 in
theorem tw_534 : Cond.instanceMethod yX2_multiply ∈ lw_tbl := List.mem_append_right _ (List.mem_append_right _ (List.mem_append_left _ (List.mem_of_getElem? (i := 221) rfl)))
set_option maxRecDepth 100000 in
theorem tw_533 : Cond.methodLink RX6 59 yX2_multiply ∈ lw_tbl := List.mem_append_right _ (List.mem_append_right _ (List.mem_append_left _ (List.mem_of_getElem? (i := 220) rfl)))
set_option maxRecDepth 100000 in
theorem tw_531 : Cond.methodLink RX2 72 yX4_gap ∈ lw_tbl := List.mem_append_right _ (List.mem_append_right _ (List.mem_append_left _ (List.mem_of_getElem? (i := 218) rfl)))
set_option maxRecDepth 100000 in
theorem dl_wsX8_read_r5 : ∀ w ∈ wsX8_read_r5, w ∈ lw_tbl := (List.forall_mem_cons.mpr ⟨tw_531, (List.forall_mem_cons.mpr ⟨tw_327, (List.forall_mem_cons.mpr ⟨tw_328, (List.forall_mem_cons.mpr ⟨tw_329, (List.forall_mem_cons.mpr ⟨tw_533, (List.forall_mem_cons.mpr ⟨tw_534, (List.forall_mem_cons.mpr ⟨tw_535, (List.forall_mem_cons.mpr ⟨tw_536, (List.forall_mem_cons.mpr ⟨tw_537, (List.forall_mem_cons.mpr ⟨tw_348, (List.forall_mem_cons.mpr ⟨tw_349, (List.forall_mem_cons.mpr ⟨tw_350, (List.forall_mem_cons.mpr ⟨tw_351, (List.forall_mem_cons.mpr ⟨tw_538, (List.forall_mem_cons.mpr ⟨tw_539, (List.forall_mem_cons.mpr ⟨tw_540, (List.forall_mem_cons.mpr ⟨tw_541, (fun _ h => absurd h List.not_mem_nil)⟩)⟩)⟩)⟩)⟩)⟩)⟩)⟩)⟩)⟩)⟩)⟩)⟩)⟩)⟩)⟩)⟩)
set_option maxRecDepth 100000 in
theorem dl_wsX8_read : ∀ w ∈ wsX8_read, w ∈ lw_tbl := (List.forall_mem_cons.mpr ⟨tw_478, (List.forall_mem_append.mpr ⟨(List.forall_mem_append.mpr ⟨(List.forall_mem_append.mpr ⟨(List.forall_mem_append.mpr ⟨(List.forall_mem_append.mpr ⟨dl_wsX8_read_r1, (List.forall_mem_append.mpr ⟨dl_wsX8_read_r2, (List.forall_mem_append.mpr ⟨dl_wsX8_read_r3, (List.forall_mem_append.mpr ⟨dl_wsX8_read_r4, dl_wsX8_read_r5⟩)⟩)⟩)⟩), fu_wsX80⟩), fu_wsX60⟩), fu_wsX20⟩), fu_wsX40⟩)⟩)
set_option maxRecDepth 100000 in
theorem tw_477 : Cond.selects RX8 yX8_read yX8_read ∈ lw_tbl := List.mem_append_right _ (List.mem_append_right _ (List.mem_append_left _ (List.mem_of_getElem? (i := 164) rfl)))
set_option maxRecDepth 100000 in
theorem tw_476 : Cond.instanceMethod yX8_read ∈ lw_tbl := List.mem_append_right _ (List.mem_append_right _ (List.mem_append_left _ (List.mem_of_getElem? (i := 163) rfl)))
set_option maxRecDepth 100000 in
theorem tw_475 : Cond.methodLink RL 45 yX8_read ∈ lw_tbl := List.mem_append_right _ (List.mem_append_right _ (List.mem_append_left _ (List.mem_of_getElem? (i := 162) rfl)))
set_option maxRecDepth 100000 in
theorem tw_1301 : Cond.code yX9_read cX9_read 4 (some .int) ∈ lw_tbl := List.mem_append_right _ (List.mem_append_right _ (List.mem_append_right _ (List.mem_append_right _ (List.mem_append_right _ (List.mem_append_right _ (List.mem_of_getElem? (i := 28) rfl))))))
set_option maxRecDepth 100000 in
theorem tw_69 : Cond.selects RX9 yX9_isDigit yX9_isDigit ∈ lw_tbl := List.mem_append_left _ (List.mem_of_getElem? (i := 69) rfl)
set_option maxRecDepth 100000 in
theorem tw_1316 : Cond.instanceMethod yX9_isDigit ∈ lw_tbl := List.mem_append_right _ (List.mem_append_right _ (List.mem_append_right _ (List.mem_append_right _ (List.mem_append_right _ (List.mem_append_right _ (List.mem_of_getElem? (i := 43) rfl))))))
set_option maxRecDepth 100000 in
theorem tw_1314 : Cond.methodLink RX9 267 yX9_isDigit ∈ lw_tbl := List.mem_append_right _ (List.mem_append_right _ (List.mem_append_right _ (List.mem_append_right _ (List.mem_append_right _ (List.mem_append_right _ (List.mem_of_getElem? (i := 41) rfl))))))
set_option maxRecDepth 100000 in
theorem tw_1313 : Cond.code yX9_readNumber cX9_readNumber 2 (some .boolean) ∈ lw_tbl := List.mem_append_right _ (List.mem_append_right _ (List.mem_append_right _ (List.mem_append_right _ (List.mem_append_right _ (List.mem_append_right _ (List.mem_of_getElem? (i := 40) rfl))))))
set_option maxRecDepth 100000 in
theorem tw_68 : Cond.selects RX9 yX9_readNumber yX9_readNumber ∈ lw_tbl := List.mem_append_left _ (List.mem_of_getElem? (i := 68) rfl)
set_option maxRecDepth 100000 in
theorem tw_1312 : Cond.instanceMethod yX9_readNumber ∈ lw_tbl := List.mem_append_right _ (List.mem_append_right _ (List.mem_append_right _ (List.mem_append_right _ (List.mem_append_right _ (List.mem_append_right _ (List.mem_of_getElem? (i := 39) rfl))))))
set_option maxRecDepth 100000 in
theorem tw_1310 : Cond.methodLink RX9 276 yX9_readNumber ∈ lw_tbl := List.mem_append_right _ (List.mem_append_right _ (List.mem_append_right _ (List.mem_append_right _ (List.mem_append_right _ (List.mem_append_right _ (List.mem_of_getElem? (i := 37) rfl))))))
set_option maxRecDepth 100000 in
theorem tw_1309 : Cond.code yX9_readClause cX9_readClause 3 (some .boolean) ∈ lw_tbl := List.mem_append_right _ (List.mem_append_right _ (List.mem_append_right _ (List.mem_append_right _ (List.mem_append_right _ (List.mem_append_right _ (List.mem_of_getElem? (i := 36) rfl))))))
set_option maxRecDepth 100000 in
theorem tw_67 : Cond.selects RX9 yX9_readClause yX9_readClause ∈ lw_tbl := List.mem_append_left _ (List.mem_of_getElem? (i := 67) rfl)
set_option maxRecDepth 100000 in
theorem tw_1308 : Cond.instanceMethod yX9_readClause ∈ lw_tbl := List.mem_append_right _ (List.mem_append_right _ (List.mem_append_right _ (List.mem_append_right _ (List.mem_append_right _ (List.mem_append_right _ (List.mem_of_getElem? (i := 35) rfl))))))
set_option maxRecDepth 100000 in
theorem tw_1306 : Cond.methodLink RX9 282 yX9_readClause ∈ lw_tbl := List.mem_append_right _ (List.mem_append_right _ (List.mem_append_right _ (List.mem_append_right _ (List.mem_append_right _ (List.mem_append_right _ (List.mem_of_getElem? (i := 33) rfl))))))
set_option maxRecDepth 100000 in
theorem tw_1305 : Cond.code yX9_readAll cX9_readAll 1 (some .boolean) ∈ lw_tbl := List.mem_append_right _ (List.mem_append_right _ (List.mem_append_right _ (List.mem_append_right _ (List.mem_append_right _ (List.mem_append_right _ (List.mem_of_getElem? (i := 32) rfl))))))
set_option maxRecDepth 100000 in
theorem tw_66 : Cond.selects RX9 yX9_readAll yX9_readAll ∈ lw_tbl := List.mem_append_left _ (List.mem_of_getElem? (i := 66) rfl)
set_option maxRecDepth 100000 in
theorem tw_1304 : Cond.instanceMethod yX9_readAll ∈ lw_tbl := List.mem_append_right _ (List.mem_append_right _ (List.mem_append_right _ (List.mem_append_right _ (List.mem_append_right _ (List.mem_append_right _ (List.mem_of_getElem? (i := 31) rfl))))))
set_option maxRecDepth 100000 in
theorem tw_1302 : Cond.methodLink RX9 294 yX9_readAll ∈ lw_tbl := List.mem_append_right _ (List.mem_append_right _ (List.mem_append_right _ (List.mem_append_right _ (List.mem_append_right _ (List.mem_append_right _ (List.mem_of_getElem? (i := 29) rfl))))))
set_option maxRecDepth 100000 in
theorem tw_935 : Cond.fieldLink RX9 273 "TightHullsModel" "clauses" "I" ∈ lw_tbl := List.mem_append_right _ (List.mem_append_right _ (List.mem_append_right _ (List.mem_append_right _ (List.mem_append_left _ (List.mem_of_getElem? (i := 142) rfl)))))
set_option maxRecDepth 100000 in
theorem tw_934 : Cond.fieldLink RX9 264 "TightHullsModel" "place" "I" ∈ lw_tbl := List.mem_append_right _ (List.mem_append_right _ (List.mem_append_right _ (List.mem_append_right _ (List.mem_append_left _ (List.mem_of_getElem? (i := 141) rfl)))))
set_option maxRecDepth 100000 in
theorem dl_wsX9_read_r1 : ∀ w ∈ wsX9_read_r1, w ∈ lw_tbl := (List.forall_mem_cons.mpr ⟨tw_922, (List.forall_mem_cons.mpr ⟨tw_934, (List.forall_mem_cons.mpr ⟨tw_935, (List.forall_mem_cons.mpr ⟨tw_1302, (List.forall_mem_cons.mpr ⟨tw_1304, (List.forall_mem_cons.mpr ⟨tw_66, (List.forall_mem_cons.mpr ⟨tw_83, (List.forall_mem_cons.mpr ⟨tw_1305, (List.forall_mem_cons.mpr ⟨tw_1306, (List.forall_mem_cons.mpr ⟨tw_1308, (List.forall_mem_cons.mpr ⟨tw_67, (List.forall_mem_cons.mpr ⟨tw_1309, (List.forall_mem_cons.mpr ⟨tw_921, (List.forall_mem_cons.mpr ⟨tw_936, (List.forall_mem_cons.mpr ⟨tw_937, (List.forall_mem_cons.mpr ⟨tw_938, (List.forall_mem_cons.mpr ⟨tw_1310, (List.forall_mem_cons.mpr ⟨tw_1312, (List.forall_mem_cons.mpr ⟨tw_68, (List.forall_mem_cons.mpr ⟨tw_1313, (List.forall_mem_cons.mpr ⟨tw_939, (List.forall_mem_cons.mpr ⟨tw_1314, (List.forall_mem_cons.mpr ⟨tw_1316, (List.forall_mem_cons.mpr ⟨tw_69, (fun _ h => absurd h List.not_mem_nil)⟩)⟩)⟩)⟩)⟩)⟩)⟩)⟩)⟩)⟩)⟩)⟩)⟩)⟩)⟩)⟩)⟩)⟩)⟩)⟩)⟩)⟩)⟩)⟩)
set_option maxRecDepth 100000 in
theorem tw_1330 : Cond.methodLink RX9 285 yX9_points ∈ lw_tbl := List.mem_append_right _ (List.mem_append_right _ (List.mem_append_right _ (List.mem_append_right _ (List.mem_append_right _ (List.mem_append_right _ (List.mem_of_getElem? (i := 57) rfl))))))
set_option maxRecDepth 100000 in
theorem tw_1329 : Cond.code yX9_isDone cX9_isDone 5 (some .boolean) ∈ lw_tbl := List.mem_append_right _ (List.mem_append_right _ (List.mem_append_right _ (List.mem_append_right _ (List.mem_append_right _ (List.mem_append_right _ (List.mem_of_getElem? (i := 56) rfl))))))
set_option maxRecDepth 100000 in
theorem tw_72 : Cond.selects RX9 yX9_isDone yX9_isDone ∈ lw_tbl := List.mem_append_left _ (List.mem_of_getElem? (i := 72) rfl)
set_option maxRecDepth 100000 in
theorem tw_1328 : Cond.instanceMethod yX9_isDone ∈ lw_tbl := List.mem_append_right _ (List.mem_append_right _ (List.mem_append_right _ (List.mem_append_right _ (List.mem_append_right _ (List.mem_append_right _ (List.mem_of_getElem? (i := 55) rfl))))))
set_option maxRecDepth 100000 in
theorem tw_1326 : Cond.methodLink RX9 297 yX9_isDone ∈ lw_tbl := List.mem_append_right _ (List.mem_append_right _ (List.mem_append_right _ (List.mem_append_right _ (List.mem_append_right _ (List.mem_append_right _ (List.mem_of_getElem? (i := 53) rfl))))))
set_option maxRecDepth 100000 in
theorem tw_1325 : Cond.code yX9_takes cX9_takes 2 (some .boolean) ∈ lw_tbl := List.mem_append_right _ (List.mem_append_right _ (List.mem_append_right _ (List.mem_append_right _ (List.mem_append_right _ (List.mem_append_right _ (List.mem_of_getElem? (i := 52) rfl))))))
set_option maxRecDepth 100000 in
theorem tw_71 : Cond.selects RX9 yX9_takes yX9_takes ∈ lw_tbl := List.mem_append_left _ (List.mem_of_getElem? (i := 71) rfl)
set_option maxRecDepth 100000 in
theorem tw_1324 : Cond.instanceMethod yX9_takes ∈ lw_tbl := List.mem_append_right _ (List.mem_append_right _ (List.mem_append_right _ (List.mem_append_right _ (List.mem_append_right _ (List.mem_append_right _ (List.mem_of_getElem? (i := 51) rfl))))))
set_option maxRecDepth 100000 in
theorem tw_1322 : Cond.methodLink RX9 279 yX9_takes ∈ lw_tbl := List.mem_append_right _ (List.mem_append_right _ (List.mem_append_right _ (List.mem_append_right _ (List.mem_append_right _ (List.mem_append_right _ (List.mem_of_getElem? (i := 49) rfl))))))
set_option maxRecDepth 100000 in
theorem tw_1321 : Cond.code yX9_digit cX9_digit 1 (some .int) ∈ lw_tbl := List.mem_append_right _ (List.mem_append_right _ (List.mem_append_right _ (List.mem_append_right _ (List.mem_append_right _ (List.mem_append_right _ (List.mem_of_getElem? (i := 48) rfl))))))
set_option maxRecDepth 100000 in
theorem tw_70 : Cond.selects RX9 yX9_digit yX9_digit ∈ lw_tbl := List.mem_append_left _ (List.mem_of_getElem? (i := 70) rfl)
set_option maxRecDepth 100000 in
theorem tw_1320 : Cond.instanceMethod yX9_digit ∈ lw_tbl := List.mem_append_right _ (List.mem_append_right _ (List.mem_append_right _ (List.mem_append_right _ (List.mem_append_right _ (List.mem_append_right _ (List.mem_of_getElem? (i := 47) rfl))))))
set_option maxRecDepth 100000 in
theorem tw_1318 : Cond.methodLink RX9 270 yX9_digit ∈ lw_tbl := List.mem_append_right _ (List.mem_append_right _ (List.mem_append_right _ (List.mem_append_right _ (List.mem_append_right _ (List.mem_append_right _ (List.mem_of_getElem? (i := 45) rfl))))))
set_option maxRecDepth 100000 in
theorem tw_1317 : Cond.code yX9_isDigit cX9_isDigit 1 (some .boolean) ∈ lw_tbl := List.mem_append_right _ (List.mem_append_right _ (List.mem_append_right _ (List.mem_append_right _ (List.mem_append_right _ (List.mem_append_right _ (List.mem_of_getElem? (i := 44) rfl))))))
set_option maxRecDepth 100000 in
theorem dl_wsX9_read_r2 : ∀ w ∈ wsX9_read_r2, w ∈ lw_tbl := (List.forall_mem_cons.mpr ⟨tw_1317, (List.forall_mem_cons.mpr ⟨tw_1017, (List.forall_mem_cons.mpr ⟨tw_1018, (List.forall_mem_cons.mpr ⟨tw_1019, (List.forall_mem_cons.mpr ⟨tw_1318, (List.forall_mem_cons.mpr ⟨tw_1320, (List.forall_mem_cons.mpr ⟨tw_70, (List.forall_mem_cons.mpr ⟨tw_1321, (List.forall_mem_cons.mpr ⟨tw_1322, (List.forall_mem_cons.mpr ⟨tw_1324, (List.forall_mem_cons.mpr ⟨tw_71, (List.forall_mem_cons.mpr ⟨tw_1325, (List.forall_mem_cons.mpr ⟨tw_1326, (List.forall_mem_cons.mpr ⟨tw_1328, (List.forall_mem_cons.mpr ⟨tw_72, (List.forall_mem_cons.mpr ⟨tw_1329, (List.forall_mem_cons.mpr ⟨tw_907, (List.forall_mem_cons.mpr ⟨tw_1048, (List.forall_mem_cons.mpr ⟨tw_112, (List.forall_mem_cons.mpr ⟨tw_77, (List.forall_mem_cons.mpr ⟨tw_113, (List.forall_mem_cons.mpr ⟨tw_1330, (List.forall_mem_cons.mpr ⟨tw_1014, (List.forall_mem_cons.mpr ⟨tw_1015, (fun _ h => absurd h List.not_mem_nil)⟩)⟩)⟩)⟩)⟩)⟩)⟩)⟩)⟩)⟩)⟩)⟩)⟩)⟩)⟩)⟩)⟩)⟩)⟩)⟩)⟩)⟩)⟩)⟩)
set_option maxRecDepth 100000 in
theorem tw_1331 : Cond.methodLink RX9 287 yX9_set ∈ lw_tbl := List.mem_append_right _ (List.mem_append_right _ (List.mem_append_right _ (List.mem_append_right _ (List.mem_append_right _ (List.mem_append_right _ (List.mem_of_getElem? (i := 58) rfl))))))
set_option maxRecDepth 100000 in
theorem dl_wsX9_read_r3 : ∀ w ∈ wsX9_read_r3, w ∈ lw_tbl := (List.forall_mem_cons.mpr ⟨tw_1016, (List.forall_mem_cons.mpr ⟨tw_909, (List.forall_mem_cons.mpr ⟨tw_910, (List.forall_mem_cons.mpr ⟨tw_1020, (List.forall_mem_cons.mpr ⟨tw_1022, (List.forall_mem_cons.mpr ⟨tw_25, (List.forall_mem_cons.mpr ⟨tw_1023, (List.forall_mem_cons.mpr ⟨tw_908, (List.forall_mem_cons.mpr ⟨tw_1331, (List.forall_mem_cons.mpr ⟨tw_1025, (List.forall_mem_cons.mpr ⟨tw_1026, (List.forall_mem_cons.mpr ⟨tw_1027, (List.forall_mem_cons.mpr ⟨tw_1028, (List.forall_mem_cons.mpr ⟨tw_1030, (List.forall_mem_cons.mpr ⟨tw_26, (List.forall_mem_cons.mpr ⟨tw_1031, (List.forall_mem_cons.mpr ⟨tw_1032, (List.forall_mem_cons.mpr ⟨tw_1034, (List.forall_mem_cons.mpr ⟨tw_27, (List.forall_mem_cons.mpr ⟨tw_1035, (List.forall_mem_cons.mpr ⟨tw_1036, (List.forall_mem_cons.mpr ⟨tw_1038, (List.forall_mem_cons.mpr ⟨tw_28, (List.forall_mem_cons.mpr ⟨tw_1039, (fun _ h => absurd h List.not_mem_nil)⟩)⟩)⟩)⟩)⟩)⟩)⟩)⟩)⟩)⟩)⟩)⟩)⟩)⟩)⟩)⟩)⟩)⟩)⟩)⟩)⟩)⟩)⟩)⟩)
set_option maxRecDepth 100000 in
theorem tw_1332 : Cond.methodLink RX9 291 yX9_shorten ∈ lw_tbl := List.mem_append_right _ (List.mem_append_right _ (List.mem_append_right _ (List.mem_append_right _ (List.mem_append_right _ (List.mem_append_right _ (List.mem_of_getElem? (i := 59) rfl))))))
set_option maxRecDepth 100000 in
theorem dl_wsX9_read_r4 : ∀ w ∈ wsX9_read_r4, w ∈ lw_tbl := (List.forall_mem_cons.mpr ⟨tw_1332, (List.forall_mem_cons.mpr ⟨tw_1041, (List.forall_mem_cons.mpr ⟨tw_1042, (List.forall_mem_cons.mpr ⟨tw_1043, (List.forall_mem_cons.mpr ⟨tw_1044, (List.forall_mem_cons.mpr ⟨tw_1046, (List.forall_mem_cons.mpr ⟨tw_29, (List.forall_mem_cons.mpr ⟨tw_1047, (List.forall_mem_cons.mpr ⟨tw_927, (fun _ h => absurd h List.not_mem_nil)⟩)⟩)⟩)⟩)⟩)⟩)⟩)⟩)⟩)
set_option maxRecDepth 100000 in
theorem dl_wsX9_read : ∀ w ∈ wsX9_read, w ∈ lw_tbl := (List.forall_mem_cons.mpr ⟨tw_1301, (List.forall_mem_append.mpr ⟨(List.forall_mem_append.mpr ⟨dl_wsX9_read_r1, (List.forall_mem_append.mpr ⟨dl_wsX9_read_r2, (List.forall_mem_append.mpr ⟨dl_wsX9_read_r3, dl_wsX9_read_r4⟩)⟩)⟩), fu_wsX90⟩)⟩)
set_option maxRecDepth 100000 in
theorem tw_1300 : Cond.selects RX9 yX9_read yX9_read ∈ lw_tbl := List.mem_append_right _ (List.mem_append_right _ (List.mem_append_right _ (List.mem_append_right _ (List.mem_append_right _ (List.mem_append_right _ (List.mem_of_getElem? (i := 27) rfl))))))
set_option maxRecDepth 100000 in
theorem tw_1299 : Cond.instanceMethod yX9_read ∈ lw_tbl := List.mem_append_right _ (List.mem_append_right _ (List.mem_append_right _ (List.mem_append_right _ (List.mem_append_right _ (List.mem_append_right _ (List.mem_of_getElem? (i := 26) rfl))))))
set_option maxRecDepth 100000 in
theorem tw_1298 : Cond.methodLink RL 48 yX9_read ∈ lw_tbl := List.mem_append_right _ (List.mem_append_right _ (List.mem_append_right _ (List.mem_append_right _ (List.mem_append_right _ (List.mem_append_right _ (List.mem_of_getElem? (i := 25) rfl))))))
set_option maxRecDepth 100000 in
theorem tw_545 : Cond.code yX8_of cX8_of 4 (some .int) ∈ lw_tbl := List.mem_append_right _ (List.mem_append_right _ (List.mem_append_left _ (List.mem_of_getElem? (i := 232) rfl)))
set_option maxRecDepth 100000 in
theorem dl_wsX8_of_r1 : ∀ w ∈ wsX8_of_r1, w ∈ lw_tbl := (List.forall_mem_cons.mpr ⟨tw_291, (List.forall_mem_cons.mpr ⟨tw_163, (List.forall_mem_cons.mpr ⟨tw_294, (List.forall_mem_cons.mpr ⟨tw_295, (List.forall_mem_cons.mpr ⟨tw_360, (List.forall_mem_cons.mpr ⟨tw_361, (List.forall_mem_cons.mpr ⟨tw_362, (List.forall_mem_cons.mpr ⟨tw_76, (List.forall_mem_cons.mpr ⟨tw_363, (List.forall_mem_cons.mpr ⟨tw_126, (List.forall_mem_cons.mpr ⟨tw_326, (List.forall_mem_cons.mpr ⟨tw_327, (List.forall_mem_cons.mpr ⟨tw_328, (List.forall_mem_cons.mpr ⟨tw_329, (List.forall_mem_cons.mpr ⟨tw_131, (List.forall_mem_cons.mpr ⟨tw_340, (List.forall_mem_cons.mpr ⟨tw_341, (List.forall_mem_cons.mpr ⟨tw_342, (List.forall_mem_cons.mpr ⟨tw_343, (List.forall_mem_cons.mpr ⟨tw_344, (List.forall_mem_cons.mpr ⟨tw_346, (List.forall_mem_cons.mpr ⟨tw_345, (List.forall_mem_cons.mpr ⟨tw_84, (List.forall_mem_cons.mpr ⟨tw_347, (fun _ h => absurd h List.not_mem_nil)⟩)⟩)⟩)⟩)⟩)⟩)⟩)⟩)⟩)⟩)⟩)⟩)⟩)⟩)⟩)⟩)⟩)⟩)⟩)⟩)⟩)⟩)⟩)⟩)
set_option maxRecDepth 100000 in
theorem tw_549 : Cond.code yX3_follow cX3_follow 4 none ∈ lw_tbl := List.mem_append_right _ (List.mem_append_right _ (List.mem_append_left _ (List.mem_of_getElem? (i := 236) rfl)))
set_option maxRecDepth 100000 in
theorem tw_548 : Cond.selects RX3 yX3_follow yX3_follow ∈ lw_tbl := List.mem_append_right _ (List.mem_append_right _ (List.mem_append_left _ (List.mem_of_getElem? (i := 235) rfl)))
set_option maxRecDepth 100000 in
theorem tw_547 : Cond.instanceMethod yX3_follow ∈ lw_tbl := List.mem_append_right _ (List.mem_append_right _ (List.mem_append_left _ (List.mem_of_getElem? (i := 234) rfl)))
set_option maxRecDepth 100000 in
theorem tw_546 : Cond.methodLink RX8 132 yX3_follow ∈ lw_tbl := List.mem_append_right _ (List.mem_append_right _ (List.mem_append_left _ (List.mem_of_getElem? (i := 233) rfl)))
set_option maxRecDepth 100000 in
theorem dl_wsX8_of_r2 : ∀ w ∈ wsX8_of_r2, w ∈ lw_tbl := (List.forall_mem_cons.mpr ⟨tw_348, (List.forall_mem_cons.mpr ⟨tw_349, (List.forall_mem_cons.mpr ⟨tw_350, (List.forall_mem_cons.mpr ⟨tw_111, (List.forall_mem_cons.mpr ⟨tw_112, (List.forall_mem_cons.mpr ⟨tw_77, (List.forall_mem_cons.mpr ⟨tw_113, (List.forall_mem_cons.mpr ⟨tw_351, (List.forall_mem_cons.mpr ⟨tw_117, (List.forall_mem_cons.mpr ⟨tw_118, (List.forall_mem_cons.mpr ⟨tw_119, (List.forall_mem_cons.mpr ⟨tw_120, (List.forall_mem_cons.mpr ⟨tw_121, (List.forall_mem_cons.mpr ⟨tw_122, (List.forall_mem_cons.mpr ⟨tw_123, (List.forall_mem_cons.mpr ⟨tw_124, (List.forall_mem_cons.mpr ⟨tw_546, (List.forall_mem_cons.mpr ⟨tw_547, (List.forall_mem_cons.mpr ⟨tw_548, (List.forall_mem_cons.mpr ⟨tw_79, (List.forall_mem_cons.mpr ⟨tw_549, (List.forall_mem_cons.mpr ⟨tw_199, (List.forall_mem_cons.mpr ⟨tw_198, (List.forall_mem_cons.mpr ⟨tw_204, (fun _ h => absurd h List.not_mem_nil)⟩)⟩)⟩)⟩)⟩)⟩)⟩)⟩)⟩)⟩)⟩)⟩)⟩)⟩)⟩)⟩)⟩)⟩)⟩)⟩)⟩)⟩)⟩)⟩)
set_option maxRecDepth 100000 in
theorem tw_20 : Cond.selects RX3 yX3_insert yX3_insert ∈ lw_tbl := List.mem_append_left _ (List.mem_of_getElem? (i := 20) rfl)
set_option maxRecDepth 100000 in
theorem tw_562 : Cond.instanceMethod yX3_insert ∈ lw_tbl := List.mem_append_right _ (List.mem_append_right _ (List.mem_append_right _ (List.mem_append_left _ (List.mem_of_getElem? (i := 9) rfl))))
set_option maxRecDepth 100000 in
theorem tw_560 : Cond.methodLink RX3 46 yX3_insert ∈ lw_tbl := List.mem_append_right _ (List.mem_append_right _ (List.mem_append_right _ (List.mem_append_left _ (List.mem_of_getElem? (i := 7) rfl))))
set_option maxRecDepth 100000 in
theorem tw_559 : Cond.code yX4_weightBy cX4_weightBy 9 (some .int) ∈ lw_tbl := List.mem_append_right _ (List.mem_append_right _ (List.mem_append_right _ (List.mem_append_left _ (List.mem_of_getElem? (i := 6) rfl))))
set_option maxRecDepth 100000 in
theorem tw_19 : Cond.selects RX4 yX4_weightBy yX4_weightBy ∈ lw_tbl := List.mem_append_left _ (List.mem_of_getElem? (i := 19) rfl)
set_option maxRecDepth 100000 in
theorem tw_558 : Cond.instanceMethod yX4_weightBy ∈ lw_tbl := List.mem_append_right _ (List.mem_append_right _ (List.mem_append_right _ (List.mem_append_left _ (List.mem_of_getElem? (i := 5) rfl))))
set_option maxRecDepth 100000 in
theorem tw_556 : Cond.methodLink RX4 81 yX4_weightBy ∈ lw_tbl := List.mem_append_right _ (List.mem_append_right _ (List.mem_append_right _ (List.mem_append_left _ (List.mem_of_getElem? (i := 3) rfl))))
set_option maxRecDepth 100000 in
theorem tw_555 : Cond.code yX4_weightOf cX4_weightOf 5 (some .int) ∈ lw_tbl := List.mem_append_right _ (List.mem_append_right _ (List.mem_append_right _ (List.mem_append_left _ (List.mem_of_getElem? (i := 2) rfl))))
set_option maxRecDepth 100000 in
theorem tw_554 : Cond.selects RX4 yX4_weightOf yX4_weightOf ∈ lw_tbl := List.mem_append_right _ (List.mem_append_right _ (List.mem_append_right _ (List.mem_append_left _ (List.mem_of_getElem? (i := 1) rfl))))
set_option maxRecDepth 100000 in
theorem tw_553 : Cond.instanceMethod yX4_weightOf ∈ lw_tbl := List.mem_append_right _ (List.mem_append_right _ (List.mem_append_right _ (List.mem_append_left _ (List.mem_of_getElem? (i := 0) rfl))))
set_option maxRecDepth 100000 in
theorem tw_552 : Cond.methodLink RX3 42 yX4_weightOf ∈ lw_tbl := List.mem_append_right _ (List.mem_append_right _ (List.mem_append_left _ (List.mem_of_getElem? (i := 239) rfl)))
set_option maxRecDepth 100000 in
theorem tw_551 : Cond.methodLink RX3 35 yX4_become ∈ lw_tbl := List.mem_append_right _ (List.mem_append_right _ (List.mem_append_left _ (List.mem_of_getElem? (i := 238) rfl)))
set_option maxRecDepth 100000 in
theorem tw_550 : Cond.methodLink RX3 31 yX4_isLike ∈ lw_tbl := List.mem_append_right _ (List.mem_append_right _ (List.mem_append_left _ (List.mem_of_getElem? (i := 237) rfl)))
set_option maxRecDepth 100000 in
theorem tw_127 : Cond.fieldLink RX3 39 "TightHulls$Table" "size" "I" ∈ lw_tbl := List.mem_append_right _ (List.mem_append_left _ (List.mem_of_getElem? (i := 54) rfl))
set_option maxRecDepth 100000 in
theorem dl_wsX8_of_r3 : ∀ w ∈ wsX8_of_r3, w ∈ lw_tbl := (List.forall_mem_cons.mpr ⟨tw_127, (List.forall_mem_cons.mpr ⟨tw_550, (List.forall_mem_cons.mpr ⟨tw_390, (List.forall_mem_cons.mpr ⟨tw_391, (List.forall_mem_cons.mpr ⟨tw_392, (List.forall_mem_cons.mpr ⟨tw_393, (List.forall_mem_cons.mpr ⟨tw_353, (List.forall_mem_cons.mpr ⟨tw_354, (List.forall_mem_cons.mpr ⟨tw_355, (List.forall_mem_cons.mpr ⟨tw_551, (List.forall_mem_cons.mpr ⟨tw_552, (List.forall_mem_cons.mpr ⟨tw_553, (List.forall_mem_cons.mpr ⟨tw_554, (List.forall_mem_cons.mpr ⟨tw_555, (List.forall_mem_cons.mpr ⟨tw_556, (List.forall_mem_cons.mpr ⟨tw_558, (List.forall_mem_cons.mpr ⟨tw_19, (List.forall_mem_cons.mpr ⟨tw_559, (List.forall_mem_cons.mpr ⟨tw_114, (List.forall_mem_cons.mpr ⟨tw_115, (List.forall_mem_cons.mpr ⟨tw_116, (List.forall_mem_cons.mpr ⟨tw_560, (List.forall_mem_cons.mpr ⟨tw_562, (List.forall_mem_cons.mpr ⟨tw_20, (fun _ h => absurd h List.not_mem_nil)⟩)⟩)⟩)⟩)⟩)⟩)⟩)⟩)⟩)⟩)⟩)⟩)⟩)⟩)⟩)⟩)⟩)⟩)⟩)⟩)⟩)⟩)⟩)⟩)
set_option maxRecDepth 100000 in
theorem tw_571 : Cond.code yX3_parts cX3_parts 4 (some .boolean) ∈ lw_tbl := List.mem_append_right _ (List.mem_append_right _ (List.mem_append_right _ (List.mem_append_left _ (List.mem_of_getElem? (i := 18) rfl))))
set_option maxRecDepth 100000 in
theorem tw_21 : Cond.selects RX3 yX3_parts yX3_parts ∈ lw_tbl := List.mem_append_left _ (List.mem_of_getElem? (i := 21) rfl)
set_option maxRecDepth 100000 in
theorem tw_570 : Cond.instanceMethod yX3_parts ∈ lw_tbl := List.mem_append_right _ (List.mem_append_right _ (List.mem_append_right _ (List.mem_append_left _ (List.mem_of_getElem? (i := 17) rfl))))
set_option maxRecDepth 100000 in
theorem tw_568 : Cond.methodLink RX3 50 yX3_parts ∈ lw_tbl := List.mem_append_right _ (List.mem_append_right _ (List.mem_append_right _ (List.mem_append_left _ (List.mem_of_getElem? (i := 15) rfl))))
set_option maxRecDepth 100000 in
theorem tw_567 : Cond.code yX3_weightBetween cX3_weightBetween 5 (some .int) ∈ lw_tbl := List.mem_append_right _ (List.mem_append_right _ (List.mem_append_right _ (List.mem_append_left _ (List.mem_of_getElem? (i := 14) rfl))))
set_option maxRecDepth 100000 in
theorem tw_566 : Cond.selects RX3 yX3_weightBetween yX3_weightBetween ∈ lw_tbl := List.mem_append_right _ (List.mem_append_right _ (List.mem_append_right _ (List.mem_append_left _ (List.mem_of_getElem? (i := 13) rfl))))
set_option maxRecDepth 100000 in
theorem tw_565 : Cond.instanceMethod yX3_weightBetween ∈ lw_tbl := List.mem_append_right _ (List.mem_append_right _ (List.mem_append_right _ (List.mem_append_left _ (List.mem_of_getElem? (i := 12) rfl))))
set_option maxRecDepth 100000 in
theorem tw_564 : Cond.methodLink RX8 135 yX3_weightBetween ∈ lw_tbl := List.mem_append_right _ (List.mem_append_right _ (List.mem_append_right _ (List.mem_append_left _ (List.mem_of_getElem? (i := 11) rfl))))
set_option maxRecDepth 100000 in
theorem tw_563 : Cond.code yX3_insert cX3_insert 4 none ∈ lw_tbl := List.mem_append_right _ (List.mem_append_right _ (List.mem_append_right _ (List.mem_append_left _ (List.mem_of_getElem? (i := 10) rfl))))
set_option maxRecDepth 100000 in
theorem dl_wsX8_of_r4 : ∀ w ∈ wsX8_of_r4, w ∈ lw_tbl := (List.forall_mem_cons.mpr ⟨tw_563, (List.forall_mem_cons.mpr ⟨tw_202, (List.forall_mem_cons.mpr ⟨tw_200, (List.forall_mem_cons.mpr ⟨tw_564, (List.forall_mem_cons.mpr ⟨tw_565, (List.forall_mem_cons.mpr ⟨tw_566, (List.forall_mem_cons.mpr ⟨tw_567, (List.forall_mem_cons.mpr ⟨tw_568, (List.forall_mem_cons.mpr ⟨tw_570, (List.forall_mem_cons.mpr ⟨tw_21, (List.forall_mem_cons.mpr ⟨tw_571, (fun _ h => absurd h List.not_mem_nil)⟩)⟩)⟩)⟩)⟩)⟩)⟩)⟩)⟩)⟩)⟩)
set_option maxRecDepth 100000 in
theorem dl_wsX8_of : ∀ w ∈ wsX8_of, w ∈ lw_tbl := (List.forall_mem_cons.mpr ⟨tw_545, (List.forall_mem_append.mpr ⟨(List.forall_mem_append.mpr ⟨(List.forall_mem_append.mpr ⟨(List.forall_mem_append.mpr ⟨(List.forall_mem_append.mpr ⟨dl_wsX8_of_r1, (List.forall_mem_append.mpr ⟨dl_wsX8_of_r2, (List.forall_mem_append.mpr ⟨dl_wsX8_of_r3, dl_wsX8_of_r4⟩)⟩)⟩), fu_wsX80⟩), fu_wsX20⟩), fu_wsX40⟩), fu_wsX30⟩)⟩)
set_option maxRecDepth 100000 in
theorem tw_544 : Cond.selects RX8 yX8_of yX8_of ∈ lw_tbl := List.mem_append_right _ (List.mem_append_right _ (List.mem_append_left _ (List.mem_of_getElem? (i := 231) rfl)))
set_option maxRecDepth 100000 in
theorem tw_543 : Cond.instanceMethod yX8_of ∈ lw_tbl := List.mem_append_right _ (List.mem_append_right _ (List.mem_append_left _ (List.mem_of_getElem? (i := 230) rfl)))
set_option maxRecDepth 100000 in
theorem tw_542 : Cond.methodLink RL 49 yX8_of ∈ lw_tbl := List.mem_append_right _ (List.mem_append_right _ (List.mem_append_left _ (List.mem_of_getElem? (i := 229) rfl)))
set_option maxRecDepth 100000 in
theorem tw_1093 : Cond.code yX9_of cX9_of 6 (some .int) ∈ lw_tbl := List.mem_append_right _ (List.mem_append_right _ (List.mem_append_right _ (List.mem_append_right _ (List.mem_append_right _ (List.mem_append_left _ (List.mem_of_getElem? (i := 60) rfl))))))
set_option maxRecDepth 100000 in
theorem tw_1097 : Cond.code yX9_laysAside cX9_laysAside 2 none ∈ lw_tbl := List.mem_append_right _ (List.mem_append_right _ (List.mem_append_right _ (List.mem_append_right _ (List.mem_append_right _ (List.mem_append_left _ (List.mem_of_getElem? (i := 64) rfl))))))
set_option maxRecDepth 100000 in
theorem tw_37 : Cond.selects RX9 yX9_laysAside yX9_laysAside ∈ lw_tbl := List.mem_append_left _ (List.mem_of_getElem? (i := 37) rfl)
set_option maxRecDepth 100000 in
theorem tw_1096 : Cond.instanceMethod yX9_laysAside ∈ lw_tbl := List.mem_append_right _ (List.mem_append_right _ (List.mem_append_right _ (List.mem_append_right _ (List.mem_append_right _ (List.mem_append_left _ (List.mem_of_getElem? (i := 63) rfl))))))
set_option maxRecDepth 100000 in
theorem tw_1094 : Cond.methodLink RX9 150 yX9_laysAside ∈ lw_tbl := List.mem_append_right _ (List.mem_append_right _ (List.mem_append_right _ (List.mem_append_right _ (List.mem_append_right _ (List.mem_append_left _ (List.mem_of_getElem? (i := 61) rfl))))))
set_option maxRecDepth 100000 in
theorem dl_wsX9_of_r1 : ∀ w ∈ wsX9_of_r1, w ∈ lw_tbl := (List.forall_mem_cons.mpr ⟨tw_1032, (List.forall_mem_cons.mpr ⟨tw_1034, (List.forall_mem_cons.mpr ⟨tw_27, (List.forall_mem_cons.mpr ⟨tw_83, (List.forall_mem_cons.mpr ⟨tw_1035, (List.forall_mem_cons.mpr ⟨tw_907, (List.forall_mem_cons.mpr ⟨tw_1017, (List.forall_mem_cons.mpr ⟨tw_1018, (List.forall_mem_cons.mpr ⟨tw_1019, (List.forall_mem_cons.mpr ⟨tw_1094, (List.forall_mem_cons.mpr ⟨tw_1096, (List.forall_mem_cons.mpr ⟨tw_37, (List.forall_mem_cons.mpr ⟨tw_1097, (List.forall_mem_cons.mpr ⟨tw_928, (List.forall_mem_cons.mpr ⟨tw_908, (List.forall_mem_cons.mpr ⟨tw_1044, (List.forall_mem_cons.mpr ⟨tw_1046, (List.forall_mem_cons.mpr ⟨tw_29, (List.forall_mem_cons.mpr ⟨tw_1047, (List.forall_mem_cons.mpr ⟨tw_927, (List.forall_mem_cons.mpr ⟨tw_1048, (List.forall_mem_cons.mpr ⟨tw_112, (List.forall_mem_cons.mpr ⟨tw_77, (List.forall_mem_cons.mpr ⟨tw_113, (fun _ h => absurd h List.not_mem_nil)⟩)⟩)⟩)⟩)⟩)⟩)⟩)⟩)⟩)⟩)⟩)⟩)⟩)⟩)⟩)⟩)⟩)⟩)⟩)⟩)⟩)⟩)⟩)⟩)
set_option maxRecDepth 100000 in
theorem tw_1113 : Cond.code yX9_weightOf cX9_weightOf 9 (some .int) ∈ lw_tbl := List.mem_append_right _ (List.mem_append_right _ (List.mem_append_right _ (List.mem_append_right _ (List.mem_append_right _ (List.mem_append_left _ (List.mem_of_getElem? (i := 80) rfl))))))
set_option maxRecDepth 100000 in
theorem tw_41 : Cond.selects RX9 yX9_weightOf yX9_weightOf ∈ lw_tbl := List.mem_append_left _ (List.mem_of_getElem? (i := 41) rfl)
set_option maxRecDepth 100000 in
theorem tw_1112 : Cond.instanceMethod yX9_weightOf ∈ lw_tbl := List.mem_append_right _ (List.mem_append_right _ (List.mem_append_right _ (List.mem_append_right _ (List.mem_append_right _ (List.mem_append_left _ (List.mem_of_getElem? (i := 79) rfl))))))
set_option maxRecDepth 100000 in
theorem tw_1110 : Cond.methodLink RX9 233 yX9_weightOf ∈ lw_tbl := List.mem_append_right _ (List.mem_append_right _ (List.mem_append_right _ (List.mem_append_right _ (List.mem_append_right _ (List.mem_append_left _ (List.mem_of_getElem? (i := 77) rfl))))))
set_option maxRecDepth 100000 in
theorem tw_1109 : Cond.code yX9_isSplit cX9_isSplit 2 (some .boolean) ∈ lw_tbl := List.mem_append_right _ (List.mem_append_right _ (List.mem_append_right _ (List.mem_append_right _ (List.mem_append_right _ (List.mem_append_left _ (List.mem_of_getElem? (i := 76) rfl))))))
set_option maxRecDepth 100000 in
theorem tw_40 : Cond.selects RX9 yX9_isSplit yX9_isSplit ∈ lw_tbl := List.mem_append_left _ (List.mem_of_getElem? (i := 40) rfl)
set_option maxRecDepth 100000 in
theorem tw_1108 : Cond.instanceMethod yX9_isSplit ∈ lw_tbl := List.mem_append_right _ (List.mem_append_right _ (List.mem_append_right _ (List.mem_append_right _ (List.mem_append_right _ (List.mem_append_left _ (List.mem_of_getElem? (i := 75) rfl))))))
set_option maxRecDepth 100000 in
theorem tw_1106 : Cond.methodLink RX9 230 yX9_isSplit ∈ lw_tbl := List.mem_append_right _ (List.mem_append_right _ (List.mem_append_right _ (List.mem_append_right _ (List.mem_append_right _ (List.mem_append_left _ (List.mem_of_getElem? (i := 73) rfl))))))
set_option maxRecDepth 100000 in
theorem tw_1105 : Cond.code yX9_restOf cX9_restOf 5 (some .int) ∈ lw_tbl := List.mem_append_right _ (List.mem_append_right _ (List.mem_append_right _ (List.mem_append_right _ (List.mem_append_right _ (List.mem_append_left _ (List.mem_of_getElem? (i := 72) rfl))))))
set_option maxRecDepth 100000 in
theorem tw_39 : Cond.selects RX9 yX9_restOf yX9_restOf ∈ lw_tbl := List.mem_append_left _ (List.mem_of_getElem? (i := 39) rfl)
set_option maxRecDepth 100000 in
theorem tw_1104 : Cond.instanceMethod yX9_restOf ∈ lw_tbl := List.mem_append_right _ (List.mem_append_right _ (List.mem_append_right _ (List.mem_append_right _ (List.mem_append_right _ (List.mem_append_left _ (List.mem_of_getElem? (i := 71) rfl))))))
set_option maxRecDepth 100000 in
theorem tw_1102 : Cond.methodLink RX9 156 yX9_restOf ∈ lw_tbl := List.mem_append_right _ (List.mem_append_right _ (List.mem_append_right _ (List.mem_append_right _ (List.mem_append_right _ (List.mem_append_left _ (List.mem_of_getElem? (i := 69) rfl))))))
set_option maxRecDepth 100000 in
theorem tw_1101 : Cond.code yX9_laysBack cX9_laysBack 2 none ∈ lw_tbl := List.mem_append_right _ (List.mem_append_right _ (List.mem_append_right _ (List.mem_append_right _ (List.mem_append_right _ (List.mem_append_left _ (List.mem_of_getElem? (i := 68) rfl))))))
set_option maxRecDepth 100000 in
theorem tw_38 : Cond.selects RX9 yX9_laysBack yX9_laysBack ∈ lw_tbl := List.mem_append_left _ (List.mem_of_getElem? (i := 38) rfl)
set_option maxRecDepth 100000 in
theorem tw_1100 : Cond.instanceMethod yX9_laysBack ∈ lw_tbl := List.mem_append_right _ (List.mem_append_right _ (List.mem_append_right _ (List.mem_append_right _ (List.mem_append_right _ (List.mem_append_left _ (List.mem_of_getElem? (i := 67) rfl))))))
set_option maxRecDepth 100000 in
theorem tw_1098 : Cond.methodLink RX9 153 yX9_laysBack ∈ lw_tbl := List.mem_append_right _ (List.mem_append_right _ (List.mem_append_right _ (List.mem_append_right _ (List.mem_append_right _ (List.mem_append_left _ (List.mem_of_getElem? (i := 65) rfl))))))
set_option maxRecDepth 100000 in
theorem dl_wsX9_of_r2 : ∀ w ∈ wsX9_of_r2, w ∈ lw_tbl := (List.forall_mem_cons.mpr ⟨tw_1036, (List.forall_mem_cons.mpr ⟨tw_1038, (List.forall_mem_cons.mpr ⟨tw_28, (List.forall_mem_cons.mpr ⟨tw_1039, (List.forall_mem_cons.mpr ⟨tw_1020, (List.forall_mem_cons.mpr ⟨tw_1022, (List.forall_mem_cons.mpr ⟨tw_25, (List.forall_mem_cons.mpr ⟨tw_1023, (List.forall_mem_cons.mpr ⟨tw_1098, (List.forall_mem_cons.mpr ⟨tw_1100, (List.forall_mem_cons.mpr ⟨tw_38, (List.forall_mem_cons.mpr ⟨tw_1101, (List.forall_mem_cons.mpr ⟨tw_1102, (List.forall_mem_cons.mpr ⟨tw_1104, (List.forall_mem_cons.mpr ⟨tw_39, (List.forall_mem_cons.mpr ⟨tw_1105, (List.forall_mem_cons.mpr ⟨tw_1106, (List.forall_mem_cons.mpr ⟨tw_1108, (List.forall_mem_cons.mpr ⟨tw_40, (List.forall_mem_cons.mpr ⟨tw_1109, (List.forall_mem_cons.mpr ⟨tw_1110, (List.forall_mem_cons.mpr ⟨tw_1112, (List.forall_mem_cons.mpr ⟨tw_41, (List.forall_mem_cons.mpr ⟨tw_1113, (fun _ h => absurd h List.not_mem_nil)⟩)⟩)⟩)⟩)⟩)⟩)⟩)⟩)⟩)⟩)⟩)⟩)⟩)⟩)⟩)⟩)⟩)⟩)⟩)⟩)⟩)⟩)⟩)⟩)
set_option maxRecDepth 100000 in
theorem tw_1117 : Cond.code yX9_isIn cX9_isIn 4 (some .boolean) ∈ lw_tbl := List.mem_append_right _ (List.mem_append_right _ (List.mem_append_right _ (List.mem_append_right _ (List.mem_append_right _ (List.mem_append_left _ (List.mem_of_getElem? (i := 84) rfl))))))
set_option maxRecDepth 100000 in
theorem tw_42 : Cond.selects RX9 yX9_isIn yX9_isIn ∈ lw_tbl := List.mem_append_left _ (List.mem_of_getElem? (i := 42) rfl)
set_option maxRecDepth 100000 in
theorem tw_1116 : Cond.instanceMethod yX9_isIn ∈ lw_tbl := List.mem_append_right _ (List.mem_append_right _ (List.mem_append_right _ (List.mem_append_right _ (List.mem_append_right _ (List.mem_append_left _ (List.mem_of_getElem? (i := 83) rfl))))))
set_option maxRecDepth 100000 in
theorem tw_1114 : Cond.methodLink RX9 227 yX9_isIn ∈ lw_tbl := List.mem_append_right _ (List.mem_append_right _ (List.mem_append_right _ (List.mem_append_right _ (List.mem_append_right _ (List.mem_append_left _ (List.mem_of_getElem? (i := 81) rfl))))))
set_option maxRecDepth 100000 in
theorem dl_wsX9_of_r3 : ∀ w ∈ wsX9_of_r3, w ∈ lw_tbl := (List.forall_mem_cons.mpr ⟨tw_1085, (List.forall_mem_cons.mpr ⟨tw_115, (List.forall_mem_cons.mpr ⟨tw_116, (List.forall_mem_cons.mpr ⟨tw_1114, (List.forall_mem_cons.mpr ⟨tw_1116, (List.forall_mem_cons.mpr ⟨tw_42, (List.forall_mem_cons.mpr ⟨tw_1117, (fun _ h => absurd h List.not_mem_nil)⟩)⟩)⟩)⟩)⟩)⟩)⟩)
set_option maxRecDepth 100000 in
theorem dl_wsX9_of : ∀ w ∈ wsX9_of, w ∈ lw_tbl := (List.forall_mem_cons.mpr ⟨tw_1093, (List.forall_mem_append.mpr ⟨(List.forall_mem_append.mpr ⟨dl_wsX9_of_r1, (List.forall_mem_append.mpr ⟨dl_wsX9_of_r2, dl_wsX9_of_r3⟩)⟩), fu_wsX90⟩)⟩)
set_option maxRecDepth 100000 in
theorem tw_1092 : Cond.selects RX9 yX9_of yX9_of ∈ lw_tbl := List.mem_append_right _ (List.mem_append_right _ (List.mem_append_right _ (List.mem_append_right _ (List.mem_append_right _ (List.mem_append_left _ (List.mem_of_getElem? (i := 59) rfl))))))
set_option maxRecDepth 100000 in
theorem tw_1091 : Cond.instanceMethod yX9_of ∈ lw_tbl := List.mem_append_right _ (List.mem_append_right _ (List.mem_append_right _ (List.mem_append_right _ (List.mem_append_right _ (List.mem_append_left _ (List.mem_of_getElem? (i := 58) rfl))))))
set_option maxRecDepth 100000 in
theorem tw_1090 : Cond.methodLink RL 52 yX9_of ∈ lw_tbl := List.mem_append_right _ (List.mem_append_right _ (List.mem_append_right _ (List.mem_append_right _ (List.mem_append_right _ (List.mem_append_left _ (List.mem_of_getElem? (i := 57) rfl))))))
set_option maxRecDepth 100000 in
theorem tw_575 : Cond.code yX8_told cX8_told 2 (some .int) ∈ lw_tbl := List.mem_append_right _ (List.mem_append_right _ (List.mem_append_right _ (List.mem_append_left _ (List.mem_of_getElem? (i := 22) rfl))))
set_option maxRecDepth 100000 in
theorem tw_579 : Cond.code yX8_oneIf cX8_oneIf 1 (some .int) ∈ lw_tbl := List.mem_append_right _ (List.mem_append_right _ (List.mem_append_right _ (List.mem_append_left _ (List.mem_of_getElem? (i := 26) rfl))))
set_option maxRecDepth 100000 in
theorem tw_578 : Cond.static yX8_oneIf ∈ lw_tbl := List.mem_append_right _ (List.mem_append_right _ (List.mem_append_right _ (List.mem_append_left _ (List.mem_of_getElem? (i := 25) rfl))))
set_option maxRecDepth 100000 in
theorem tw_577 : Cond.methodLink RX8 142 yX8_oneIf ∈ lw_tbl := List.mem_append_right _ (List.mem_append_right _ (List.mem_append_right _ (List.mem_append_left _ (List.mem_of_getElem? (i := 24) rfl))))
set_option maxRecDepth 100000 in
theorem tw_576 : Cond.methodLink RX8 138 yX4_isTable ∈ lw_tbl := List.mem_append_right _ (List.mem_append_right _ (List.mem_append_right _ (List.mem_append_left _ (List.mem_of_getElem? (i := 23) rfl))))
set_option maxRecDepth 100000 in
theorem tw_205 : Cond.fieldLink RX8 149 "TightHulls$Splits" "held" "I" ∈ lw_tbl := List.mem_append_right _ (List.mem_append_left _ (List.mem_of_getElem? (i := 132) rfl))
set_option maxRecDepth 100000 in
theorem dl_wsX8_told_r1 : ∀ w ∈ wsX8_told_r1, w ∈ lw_tbl := (List.forall_mem_cons.mpr ⟨tw_291, (List.forall_mem_cons.mpr ⟨tw_163, (List.forall_mem_cons.mpr ⟨tw_125, (List.forall_mem_cons.mpr ⟨tw_295, (List.forall_mem_cons.mpr ⟨tw_205, (List.forall_mem_cons.mpr ⟨tw_576, (List.forall_mem_cons.mpr ⟨tw_396, (List.forall_mem_cons.mpr ⟨tw_397, (List.forall_mem_cons.mpr ⟨tw_76, (List.forall_mem_cons.mpr ⟨tw_398, (List.forall_mem_cons.mpr ⟨tw_399, (List.forall_mem_cons.mpr ⟨tw_400, (List.forall_mem_cons.mpr ⟨tw_401, (List.forall_mem_cons.mpr ⟨tw_402, (List.forall_mem_cons.mpr ⟨tw_126, (List.forall_mem_cons.mpr ⟨tw_351, (List.forall_mem_cons.mpr ⟨tw_327, (List.forall_mem_cons.mpr ⟨tw_328, (List.forall_mem_cons.mpr ⟨tw_329, (List.forall_mem_cons.mpr ⟨tw_131, (List.forall_mem_cons.mpr ⟨tw_577, (List.forall_mem_cons.mpr ⟨tw_578, (List.forall_mem_cons.mpr ⟨tw_74, (List.forall_mem_cons.mpr ⟨tw_579, (fun _ h => absurd h List.not_mem_nil)⟩)⟩)⟩)⟩)⟩)⟩)⟩)⟩)⟩)⟩)⟩)⟩)⟩)⟩)⟩)⟩)⟩)⟩)⟩)⟩)⟩)⟩)⟩)⟩)
set_option maxRecDepth 100000 in
theorem tw_580 : Cond.methodLink RX8 146 yX4_firstBarred ∈ lw_tbl := List.mem_append_right _ (List.mem_append_right _ (List.mem_append_right _ (List.mem_append_left _ (List.mem_of_getElem? (i := 27) rfl))))
set_option maxRecDepth 100000 in
theorem dl_wsX8_told_r2 : ∀ w ∈ wsX8_told_r2, w ∈ lw_tbl := (List.forall_mem_cons.mpr ⟨tw_580, (List.forall_mem_cons.mpr ⟨tw_546, (List.forall_mem_cons.mpr ⟨tw_547, (List.forall_mem_cons.mpr ⟨tw_548, (List.forall_mem_cons.mpr ⟨tw_79, (List.forall_mem_cons.mpr ⟨tw_549, (List.forall_mem_cons.mpr ⟨tw_199, (List.forall_mem_cons.mpr ⟨tw_198, (List.forall_mem_cons.mpr ⟨tw_204, (List.forall_mem_cons.mpr ⟨tw_127, (List.forall_mem_cons.mpr ⟨tw_550, (List.forall_mem_cons.mpr ⟨tw_390, (List.forall_mem_cons.mpr ⟨tw_391, (List.forall_mem_cons.mpr ⟨tw_392, (List.forall_mem_cons.mpr ⟨tw_393, (List.forall_mem_cons.mpr ⟨tw_353, (List.forall_mem_cons.mpr ⟨tw_354, (List.forall_mem_cons.mpr ⟨tw_355, (List.forall_mem_cons.mpr ⟨tw_551, (List.forall_mem_cons.mpr ⟨tw_341, (List.forall_mem_cons.mpr ⟨tw_342, (List.forall_mem_cons.mpr ⟨tw_343, (List.forall_mem_cons.mpr ⟨tw_344, (List.forall_mem_cons.mpr ⟨tw_346, (fun _ h => absurd h List.not_mem_nil)⟩)⟩)⟩)⟩)⟩)⟩)⟩)⟩)⟩)⟩)⟩)⟩)⟩)⟩)⟩)⟩)⟩)⟩)⟩)⟩)⟩)⟩)⟩)⟩)
set_option maxRecDepth 100000 in
theorem tw_581 : Cond.methodLink RX8 150 yX4_isTree ∈ lw_tbl := List.mem_append_right _ (List.mem_append_right _ (List.mem_append_right _ (List.mem_append_left _ (List.mem_of_getElem? (i := 28) rfl))))
set_option maxRecDepth 100000 in
theorem dl_wsX8_told_r3 : ∀ w ∈ wsX8_told_r3, w ∈ lw_tbl := (List.forall_mem_cons.mpr ⟨tw_345, (List.forall_mem_cons.mpr ⟨tw_84, (List.forall_mem_cons.mpr ⟨tw_552, (List.forall_mem_cons.mpr ⟨tw_553, (List.forall_mem_cons.mpr ⟨tw_554, (List.forall_mem_cons.mpr ⟨tw_555, (List.forall_mem_cons.mpr ⟨tw_111, (List.forall_mem_cons.mpr ⟨tw_112, (List.forall_mem_cons.mpr ⟨tw_77, (List.forall_mem_cons.mpr ⟨tw_113, (List.forall_mem_cons.mpr ⟨tw_556, (List.forall_mem_cons.mpr ⟨tw_558, (List.forall_mem_cons.mpr ⟨tw_19, (List.forall_mem_cons.mpr ⟨tw_559, (List.forall_mem_cons.mpr ⟨tw_114, (List.forall_mem_cons.mpr ⟨tw_115, (List.forall_mem_cons.mpr ⟨tw_116, (List.forall_mem_cons.mpr ⟨tw_560, (List.forall_mem_cons.mpr ⟨tw_562, (List.forall_mem_cons.mpr ⟨tw_20, (List.forall_mem_cons.mpr ⟨tw_563, (List.forall_mem_cons.mpr ⟨tw_202, (List.forall_mem_cons.mpr ⟨tw_200, (List.forall_mem_cons.mpr ⟨tw_581, (fun _ h => absurd h List.not_mem_nil)⟩)⟩)⟩)⟩)⟩)⟩)⟩)⟩)⟩)⟩)⟩)⟩)⟩)⟩)⟩)⟩)⟩)⟩)⟩)⟩)⟩)⟩)⟩)⟩)
set_option maxRecDepth 100000 in
theorem tw_605 : Cond.code yX4_manyOf cX4_manyOf 5 (some .int) ∈ lw_tbl := List.mem_append_right _ (List.mem_append_right _ (List.mem_append_right _ (List.mem_append_left _ (List.mem_of_getElem? (i := 52) rfl))))
set_option maxRecDepth 100000 in
theorem tw_23 : Cond.selects RX4 yX4_manyOf yX4_manyOf ∈ lw_tbl := List.mem_append_left _ (List.mem_of_getElem? (i := 23) rfl)
set_option maxRecDepth 100000 in
theorem tw_604 : Cond.instanceMethod yX4_manyOf ∈ lw_tbl := List.mem_append_right _ (List.mem_append_right _ (List.mem_append_right _ (List.mem_append_left _ (List.mem_of_getElem? (i := 51) rfl))))
set_option maxRecDepth 100000 in
theorem tw_602 : Cond.methodLink RX4 57 yX4_manyOf ∈ lw_tbl := List.mem_append_right _ (List.mem_append_right _ (List.mem_append_right _ (List.mem_append_left _ (List.mem_of_getElem? (i := 49) rfl))))
set_option maxRecDepth 100000 in
theorem tw_601 : Cond.code yX4_usual cX4_usual 5 (some .int) ∈ lw_tbl := List.mem_append_right _ (List.mem_append_right _ (List.mem_append_right _ (List.mem_append_left _ (List.mem_of_getElem? (i := 48) rfl))))
set_option maxRecDepth 100000 in
theorem tw_600 : Cond.selects RX4 yX4_usual yX4_usual ∈ lw_tbl := List.mem_append_right _ (List.mem_append_right _ (List.mem_append_right _ (List.mem_append_left _ (List.mem_of_getElem? (i := 47) rfl))))
set_option maxRecDepth 100000 in
theorem tw_599 : Cond.instanceMethod yX4_usual ∈ lw_tbl := List.mem_append_right _ (List.mem_append_right _ (List.mem_append_right _ (List.mem_append_left _ (List.mem_of_getElem? (i := 46) rfl))))
set_option maxRecDepth 100000 in
theorem tw_598 : Cond.methodLink RX8 159 yX4_usual ∈ lw_tbl := List.mem_append_right _ (List.mem_append_right _ (List.mem_append_right _ (List.mem_append_left _ (List.mem_of_getElem? (i := 45) rfl))))
set_option maxRecDepth 100000 in
theorem tw_597 : Cond.code yX4_girth cX4_girth 4 (some .int) ∈ lw_tbl := List.mem_append_right _ (List.mem_append_right _ (List.mem_append_right _ (List.mem_append_left _ (List.mem_of_getElem? (i := 44) rfl))))
set_option maxRecDepth 100000 in
theorem tw_596 : Cond.selects RX4 yX4_girth yX4_girth ∈ lw_tbl := List.mem_append_right _ (List.mem_append_right _ (List.mem_append_right _ (List.mem_append_left _ (List.mem_of_getElem? (i := 43) rfl))))
set_option maxRecDepth 100000 in
theorem tw_595 : Cond.instanceMethod yX4_girth ∈ lw_tbl := List.mem_append_right _ (List.mem_append_right _ (List.mem_append_right _ (List.mem_append_left _ (List.mem_of_getElem? (i := 42) rfl))))
set_option maxRecDepth 100000 in
theorem tw_594 : Cond.methodLink RX8 156 yX4_girth ∈ lw_tbl := List.mem_append_right _ (List.mem_append_right _ (List.mem_append_right _ (List.mem_append_left _ (List.mem_of_getElem? (i := 41) rfl))))
set_option maxRecDepth 100000 in
theorem tw_593 : Cond.code yX4_span cX4_span 4 (some .int) ∈ lw_tbl := List.mem_append_right _ (List.mem_append_right _ (List.mem_append_right _ (List.mem_append_left _ (List.mem_of_getElem? (i := 40) rfl))))
set_option maxRecDepth 100000 in
theorem tw_592 : Cond.selects RX4 yX4_span yX4_span ∈ lw_tbl := List.mem_append_right _ (List.mem_append_right _ (List.mem_append_right _ (List.mem_append_left _ (List.mem_of_getElem? (i := 39) rfl))))
set_option maxRecDepth 100000 in
theorem tw_591 : Cond.instanceMethod yX4_span ∈ lw_tbl := List.mem_append_right _ (List.mem_append_right _ (List.mem_append_right _ (List.mem_append_left _ (List.mem_of_getElem? (i := 38) rfl))))
set_option maxRecDepth 100000 in
theorem tw_590 : Cond.methodLink RX8 153 yX4_span ∈ lw_tbl := List.mem_append_right _ (List.mem_append_right _ (List.mem_append_right _ (List.mem_append_left _ (List.mem_of_getElem? (i := 37) rfl))))
set_option maxRecDepth 100000 in
theorem tw_589 : Cond.code yX4_hangsWithAll cX4_hangsWithAll 9 (some .boolean) ∈ lw_tbl := List.mem_append_right _ (List.mem_append_right _ (List.mem_append_right _ (List.mem_append_left _ (List.mem_of_getElem? (i := 36) rfl))))
set_option maxRecDepth 100000 in
theorem tw_22 : Cond.selects RX4 yX4_hangsWithAll yX4_hangsWithAll ∈ lw_tbl := List.mem_append_left _ (List.mem_of_getElem? (i := 22) rfl)
set_option maxRecDepth 100000 in
theorem tw_588 : Cond.instanceMethod yX4_hangsWithAll ∈ lw_tbl := List.mem_append_right _ (List.mem_append_right _ (List.mem_append_right _ (List.mem_append_left _ (List.mem_of_getElem? (i := 35) rfl))))
set_option maxRecDepth 100000 in
theorem tw_586 : Cond.methodLink RX4 77 yX4_hangsWithAll ∈ lw_tbl := List.mem_append_right _ (List.mem_append_right _ (List.mem_append_right _ (List.mem_append_left _ (List.mem_of_getElem? (i := 33) rfl))))
set_option maxRecDepth 100000 in
theorem tw_585 : Cond.methodLink RX4 73 yX4_isTable ∈ lw_tbl := List.mem_append_right _ (List.mem_append_right _ (List.mem_append_right _ (List.mem_append_left _ (List.mem_of_getElem? (i := 32) rfl))))
set_option maxRecDepth 100000 in
theorem tw_584 : Cond.code yX4_isTree cX4_isTree 4 (some .boolean) ∈ lw_tbl := List.mem_append_right _ (List.mem_append_right _ (List.mem_append_right _ (List.mem_append_left _ (List.mem_of_getElem? (i := 31) rfl))))
set_option maxRecDepth 100000 in
theorem tw_583 : Cond.selects RX4 yX4_isTree yX4_isTree ∈ lw_tbl := List.mem_append_right _ (List.mem_append_right _ (List.mem_append_right _ (List.mem_append_left _ (List.mem_of_getElem? (i := 30) rfl))))
set_option maxRecDepth 100000 in
theorem tw_582 : Cond.instanceMethod yX4_isTree ∈ lw_tbl := List.mem_append_right _ (List.mem_append_right _ (List.mem_append_right _ (List.mem_append_left _ (List.mem_of_getElem? (i := 29) rfl))))
set_option maxRecDepth 100000 in
theorem dl_wsX8_told_r4 : ∀ w ∈ wsX8_told_r4, w ∈ lw_tbl := (List.forall_mem_cons.mpr ⟨tw_582, (List.forall_mem_cons.mpr ⟨tw_583, (List.forall_mem_cons.mpr ⟨tw_584, (List.forall_mem_cons.mpr ⟨tw_585, (List.forall_mem_cons.mpr ⟨tw_586, (List.forall_mem_cons.mpr ⟨tw_588, (List.forall_mem_cons.mpr ⟨tw_22, (List.forall_mem_cons.mpr ⟨tw_589, (List.forall_mem_cons.mpr ⟨tw_590, (List.forall_mem_cons.mpr ⟨tw_591, (List.forall_mem_cons.mpr ⟨tw_592, (List.forall_mem_cons.mpr ⟨tw_593, (List.forall_mem_cons.mpr ⟨tw_594, (List.forall_mem_cons.mpr ⟨tw_595, (List.forall_mem_cons.mpr ⟨tw_596, (List.forall_mem_cons.mpr ⟨tw_597, (List.forall_mem_cons.mpr ⟨tw_598, (List.forall_mem_cons.mpr ⟨tw_599, (List.forall_mem_cons.mpr ⟨tw_600, (List.forall_mem_cons.mpr ⟨tw_601, (List.forall_mem_cons.mpr ⟨tw_602, (List.forall_mem_cons.mpr ⟨tw_604, (List.forall_mem_cons.mpr ⟨tw_23, (List.forall_mem_cons.mpr ⟨tw_605, (fun _ h => absurd h List.not_mem_nil)⟩)⟩)⟩)⟩)⟩)⟩)⟩)⟩)⟩)⟩)⟩)⟩)⟩)⟩)⟩)⟩)⟩)⟩)⟩)⟩)⟩)⟩)⟩)⟩)
set_option maxRecDepth 100000 in
theorem tw_622 : Cond.code yX4_mayGo cX4_mayGo 6 (some .boolean) ∈ lw_tbl := List.mem_append_right _ (List.mem_append_right _ (List.mem_append_right _ (List.mem_append_left _ (List.mem_of_getElem? (i := 69) rfl))))
set_option maxRecDepth 100000 in
theorem tw_621 : Cond.static yX4_mayGo ∈ lw_tbl := List.mem_append_right _ (List.mem_append_right _ (List.mem_append_right _ (List.mem_append_left _ (List.mem_of_getElem? (i := 68) rfl))))
set_option maxRecDepth 100000 in
theorem tw_620 : Cond.methodLink RX4 69 yX4_mayGo ∈ lw_tbl := List.mem_append_right _ (List.mem_append_right _ (List.mem_append_right _ (List.mem_append_left _ (List.mem_of_getElem? (i := 67) rfl))))
set_option maxRecDepth 100000 in
theorem tw_619 : Cond.code yX4_keepersWith cX4_keepersWith 5 (some .int) ∈ lw_tbl := List.mem_append_right _ (List.mem_append_right _ (List.mem_append_right _ (List.mem_append_left _ (List.mem_of_getElem? (i := 66) rfl))))
set_option maxRecDepth 100000 in
theorem tw_618 : Cond.static yX4_keepersWith ∈ lw_tbl := List.mem_append_right _ (List.mem_append_right _ (List.mem_append_right _ (List.mem_append_left _ (List.mem_of_getElem? (i := 65) rfl))))
set_option maxRecDepth 100000 in
theorem tw_617 : Cond.methodLink RX4 65 yX4_keepersWith ∈ lw_tbl := List.mem_append_right _ (List.mem_append_right _ (List.mem_append_right _ (List.mem_append_left _ (List.mem_of_getElem? (i := 64) rfl))))
set_option maxRecDepth 100000 in
theorem tw_616 : Cond.code yX4_keepers cX4_keepers 1 (some .int) ∈ lw_tbl := List.mem_append_right _ (List.mem_append_right _ (List.mem_append_right _ (List.mem_append_left _ (List.mem_of_getElem? (i := 63) rfl))))
set_option maxRecDepth 100000 in
theorem tw_615 : Cond.selects RX4 yX4_keepers yX4_keepers ∈ lw_tbl := List.mem_append_right _ (List.mem_append_right _ (List.mem_append_right _ (List.mem_append_left _ (List.mem_of_getElem? (i := 62) rfl))))
set_option maxRecDepth 100000 in
theorem tw_614 : Cond.instanceMethod yX4_keepers ∈ lw_tbl := List.mem_append_right _ (List.mem_append_right _ (List.mem_append_right _ (List.mem_append_left _ (List.mem_of_getElem? (i := 61) rfl))))
set_option maxRecDepth 100000 in
theorem tw_613 : Cond.methodLink RX8 165 yX4_keepers ∈ lw_tbl := List.mem_append_right _ (List.mem_append_right _ (List.mem_append_right _ (List.mem_append_left _ (List.mem_of_getElem? (i := 60) rfl))))
set_option maxRecDepth 100000 in
theorem tw_612 : Cond.code yX4_wayHome cX4_wayHome 7 (some .int) ∈ lw_tbl := List.mem_append_right _ (List.mem_append_right _ (List.mem_append_right _ (List.mem_append_left _ (List.mem_of_getElem? (i := 59) rfl))))
set_option maxRecDepth 100000 in
theorem tw_611 : Cond.static yX4_wayHome ∈ lw_tbl := List.mem_append_right _ (List.mem_append_right _ (List.mem_append_right _ (List.mem_append_left _ (List.mem_of_getElem? (i := 58) rfl))))
set_option maxRecDepth 100000 in
theorem tw_610 : Cond.methodLink RX4 61 yX4_wayHome ∈ lw_tbl := List.mem_append_right _ (List.mem_append_right _ (List.mem_append_right _ (List.mem_append_left _ (List.mem_of_getElem? (i := 57) rfl))))
set_option maxRecDepth 100000 in
theorem tw_609 : Cond.code yX4_leastRound cX4_leastRound 1 (some .int) ∈ lw_tbl := List.mem_append_right _ (List.mem_append_right _ (List.mem_append_right _ (List.mem_append_left _ (List.mem_of_getElem? (i := 56) rfl))))
set_option maxRecDepth 100000 in
theorem tw_608 : Cond.selects RX4 yX4_leastRound yX4_leastRound ∈ lw_tbl := List.mem_append_right _ (List.mem_append_right _ (List.mem_append_right _ (List.mem_append_left _ (List.mem_of_getElem? (i := 55) rfl))))
set_option maxRecDepth 100000 in
theorem tw_607 : Cond.instanceMethod yX4_leastRound ∈ lw_tbl := List.mem_append_right _ (List.mem_append_right _ (List.mem_append_right _ (List.mem_append_left _ (List.mem_of_getElem? (i := 54) rfl))))
set_option maxRecDepth 100000 in
theorem tw_606 : Cond.methodLink RX8 162 yX4_leastRound ∈ lw_tbl := List.mem_append_right _ (List.mem_append_right _ (List.mem_append_right _ (List.mem_append_left _ (List.mem_of_getElem? (i := 53) rfl))))
set_option maxRecDepth 100000 in
theorem dl_wsX8_told_r5 : ∀ w ∈ wsX8_told_r5, w ∈ lw_tbl := (List.forall_mem_cons.mpr ⟨tw_606, (List.forall_mem_cons.mpr ⟨tw_607, (List.forall_mem_cons.mpr ⟨tw_608, (List.forall_mem_cons.mpr ⟨tw_609, (List.forall_mem_cons.mpr ⟨tw_610, (List.forall_mem_cons.mpr ⟨tw_611, (List.forall_mem_cons.mpr ⟨tw_612, (List.forall_mem_cons.mpr ⟨tw_613, (List.forall_mem_cons.mpr ⟨tw_614, (List.forall_mem_cons.mpr ⟨tw_615, (List.forall_mem_cons.mpr ⟨tw_616, (List.forall_mem_cons.mpr ⟨tw_617, (List.forall_mem_cons.mpr ⟨tw_618, (List.forall_mem_cons.mpr ⟨tw_619, (List.forall_mem_cons.mpr ⟨tw_620, (List.forall_mem_cons.mpr ⟨tw_621, (List.forall_mem_cons.mpr ⟨tw_622, (fun _ h => absurd h List.not_mem_nil)⟩)⟩)⟩)⟩)⟩)⟩)⟩)⟩)⟩)⟩)⟩)⟩)⟩)⟩)⟩)⟩)⟩)
set_option maxRecDepth 100000 in
theorem dl_wsX8_told : ∀ w ∈ wsX8_told, w ∈ lw_tbl := (List.forall_mem_cons.mpr ⟨tw_575, (List.forall_mem_append.mpr ⟨(List.forall_mem_append.mpr ⟨(List.forall_mem_append.mpr ⟨(List.forall_mem_append.mpr ⟨(List.forall_mem_append.mpr ⟨dl_wsX8_told_r1, (List.forall_mem_append.mpr ⟨dl_wsX8_told_r2, (List.forall_mem_append.mpr ⟨dl_wsX8_told_r3, (List.forall_mem_append.mpr ⟨dl_wsX8_told_r4, dl_wsX8_told_r5⟩)⟩)⟩)⟩), fu_wsX80⟩), fu_wsX20⟩), fu_wsX40⟩), fu_wsX30⟩)⟩)
set_option maxRecDepth 100000 in
theorem tw_574 : Cond.selects RX8 yX8_told yX8_told ∈ lw_tbl := List.mem_append_right _ (List.mem_append_right _ (List.mem_append_right _ (List.mem_append_left _ (List.mem_of_getElem? (i := 21) rfl))))
set_option maxRecDepth 100000 in
theorem tw_573 : Cond.instanceMethod yX8_told ∈ lw_tbl := List.mem_append_right _ (List.mem_append_right _ (List.mem_append_right _ (List.mem_append_left _ (List.mem_of_getElem? (i := 20) rfl))))
set_option maxRecDepth 100000 in
theorem tw_572 : Cond.methodLink RL 53 yX8_told ∈ lw_tbl := List.mem_append_right _ (List.mem_append_right _ (List.mem_append_right _ (List.mem_append_left _ (List.mem_of_getElem? (i := 19) rfl))))
set_option maxRecDepth 100000 in
theorem tw_1121 : Cond.code yX9_told cX9_told 2 (some .int) ∈ lw_tbl := List.mem_append_right _ (List.mem_append_right _ (List.mem_append_right _ (List.mem_append_right _ (List.mem_append_right _ (List.mem_append_left _ (List.mem_of_getElem? (i := 88) rfl))))))
set_option maxRecDepth 100000 in
theorem tw_1125 : Cond.code yX9_counting cX9_counting 3 (some .int) ∈ lw_tbl := List.mem_append_right _ (List.mem_append_right _ (List.mem_append_right _ (List.mem_append_right _ (List.mem_append_right _ (List.mem_append_left _ (List.mem_of_getElem? (i := 92) rfl))))))
set_option maxRecDepth 100000 in
theorem tw_43 : Cond.selects RX9 yX9_counting yX9_counting ∈ lw_tbl := List.mem_append_left _ (List.mem_of_getElem? (i := 43) rfl)
set_option maxRecDepth 100000 in
theorem tw_1124 : Cond.instanceMethod yX9_counting ∈ lw_tbl := List.mem_append_right _ (List.mem_append_right _ (List.mem_append_right _ (List.mem_append_right _ (List.mem_append_right _ (List.mem_append_left _ (List.mem_of_getElem? (i := 91) rfl))))))
set_option maxRecDepth 100000 in
theorem tw_1122 : Cond.methodLink RX9 159 yX9_counting ∈ lw_tbl := List.mem_append_right _ (List.mem_append_right _ (List.mem_append_right _ (List.mem_append_right _ (List.mem_append_right _ (List.mem_append_left _ (List.mem_of_getElem? (i := 89) rfl))))))
set_option maxRecDepth 100000 in
theorem dl_wsX9_told_r1 : ∀ w ∈ wsX9_told_r1, w ∈ lw_tbl := (List.forall_mem_cons.mpr ⟨tw_907, (List.forall_mem_cons.mpr ⟨tw_1057, (List.forall_mem_cons.mpr ⟨tw_1059, (List.forall_mem_cons.mpr ⟨tw_30, (List.forall_mem_cons.mpr ⟨tw_83, (List.forall_mem_cons.mpr ⟨tw_1060, (List.forall_mem_cons.mpr ⟨tw_1036, (List.forall_mem_cons.mpr ⟨tw_1038, (List.forall_mem_cons.mpr ⟨tw_28, (List.forall_mem_cons.mpr ⟨tw_1039, (List.forall_mem_cons.mpr ⟨tw_908, (List.forall_mem_cons.mpr ⟨tw_1122, (List.forall_mem_cons.mpr ⟨tw_1124, (List.forall_mem_cons.mpr ⟨tw_43, (List.forall_mem_cons.mpr ⟨tw_1125, (List.forall_mem_cons.mpr ⟨tw_1106, (List.forall_mem_cons.mpr ⟨tw_1108, (List.forall_mem_cons.mpr ⟨tw_40, (List.forall_mem_cons.mpr ⟨tw_1109, (List.forall_mem_cons.mpr ⟨tw_1017, (List.forall_mem_cons.mpr ⟨tw_1018, (List.forall_mem_cons.mpr ⟨tw_1019, (List.forall_mem_cons.mpr ⟨tw_1110, (List.forall_mem_cons.mpr ⟨tw_1112, (fun _ h => absurd h List.not_mem_nil)⟩)⟩)⟩)⟩)⟩)⟩)⟩)⟩)⟩)⟩)⟩)⟩)⟩)⟩)⟩)⟩)⟩)⟩)⟩)⟩)⟩)⟩)⟩)⟩)
set_option maxRecDepth 100000 in
theorem tw_46 : Cond.selects RX9 yX9_span yX9_span ∈ lw_tbl := List.mem_append_left _ (List.mem_of_getElem? (i := 46) rfl)
set_option maxRecDepth 100000 in
theorem tw_1136 : Cond.instanceMethod yX9_span ∈ lw_tbl := List.mem_append_right _ (List.mem_append_right _ (List.mem_append_right _ (List.mem_append_right _ (List.mem_append_right _ (List.mem_append_left _ (List.mem_of_getElem? (i := 103) rfl))))))
set_option maxRecDepth 100000 in
theorem tw_1134 : Cond.methodLink RX9 166 yX9_span ∈ lw_tbl := List.mem_append_right _ (List.mem_append_right _ (List.mem_append_right _ (List.mem_append_right _ (List.mem_append_right _ (List.mem_append_left _ (List.mem_of_getElem? (i := 101) rfl))))))
set_option maxRecDepth 100000 in
theorem tw_1133 : Cond.code yX9_isFour cX9_isFour 9 (some .boolean) ∈ lw_tbl := List.mem_append_right _ (List.mem_append_right _ (List.mem_append_right _ (List.mem_append_right _ (List.mem_append_right _ (List.mem_append_left _ (List.mem_of_getElem? (i := 100) rfl))))))
set_option maxRecDepth 100000 in
theorem tw_45 : Cond.selects RX9 yX9_isFour yX9_isFour ∈ lw_tbl := List.mem_append_left _ (List.mem_of_getElem? (i := 45) rfl)
set_option maxRecDepth 100000 in
theorem tw_1132 : Cond.instanceMethod yX9_isFour ∈ lw_tbl := List.mem_append_right _ (List.mem_append_right _ (List.mem_append_right _ (List.mem_append_right _ (List.mem_append_right _ (List.mem_append_left _ (List.mem_of_getElem? (i := 99) rfl))))))
set_option maxRecDepth 100000 in
theorem tw_1130 : Cond.methodLink RX9 136 yX9_isFour ∈ lw_tbl := List.mem_append_right _ (List.mem_append_right _ (List.mem_append_right _ (List.mem_append_right _ (List.mem_append_right _ (List.mem_append_left _ (List.mem_of_getElem? (i := 97) rfl))))))
set_option maxRecDepth 100000 in
theorem tw_1129 : Cond.code yX9_isTree cX9_isTree 5 (some .boolean) ∈ lw_tbl := List.mem_append_right _ (List.mem_append_right _ (List.mem_append_right _ (List.mem_append_right _ (List.mem_append_right _ (List.mem_append_left _ (List.mem_of_getElem? (i := 96) rfl))))))
set_option maxRecDepth 100000 in
theorem tw_44 : Cond.selects RX9 yX9_isTree yX9_isTree ∈ lw_tbl := List.mem_append_left _ (List.mem_of_getElem? (i := 44) rfl)
set_option maxRecDepth 100000 in
theorem tw_1128 : Cond.instanceMethod yX9_isTree ∈ lw_tbl := List.mem_append_right _ (List.mem_append_right _ (List.mem_append_right _ (List.mem_append_right _ (List.mem_append_right _ (List.mem_append_left _ (List.mem_of_getElem? (i := 95) rfl))))))
set_option maxRecDepth 100000 in
theorem tw_1126 : Cond.methodLink RX9 162 yX9_isTree ∈ lw_tbl := List.mem_append_right _ (List.mem_append_right _ (List.mem_append_right _ (List.mem_append_right _ (List.mem_append_right _ (List.mem_append_left _ (List.mem_of_getElem? (i := 93) rfl))))))
set_option maxRecDepth 100000 in
theorem dl_wsX9_told_r2 : ∀ w ∈ wsX9_told_r2, w ∈ lw_tbl := (List.forall_mem_cons.mpr ⟨tw_41, (List.forall_mem_cons.mpr ⟨tw_1113, (List.forall_mem_cons.mpr ⟨tw_1085, (List.forall_mem_cons.mpr ⟨tw_115, (List.forall_mem_cons.mpr ⟨tw_77, (List.forall_mem_cons.mpr ⟨tw_116, (List.forall_mem_cons.mpr ⟨tw_1048, (List.forall_mem_cons.mpr ⟨tw_112, (List.forall_mem_cons.mpr ⟨tw_113, (List.forall_mem_cons.mpr ⟨tw_1114, (List.forall_mem_cons.mpr ⟨tw_1116, (List.forall_mem_cons.mpr ⟨tw_42, (List.forall_mem_cons.mpr ⟨tw_1117, (List.forall_mem_cons.mpr ⟨tw_1126, (List.forall_mem_cons.mpr ⟨tw_1128, (List.forall_mem_cons.mpr ⟨tw_44, (List.forall_mem_cons.mpr ⟨tw_1129, (List.forall_mem_cons.mpr ⟨tw_1130, (List.forall_mem_cons.mpr ⟨tw_1132, (List.forall_mem_cons.mpr ⟨tw_45, (List.forall_mem_cons.mpr ⟨tw_1133, (List.forall_mem_cons.mpr ⟨tw_1134, (List.forall_mem_cons.mpr ⟨tw_1136, (List.forall_mem_cons.mpr ⟨tw_46, (fun _ h => absurd h List.not_mem_nil)⟩)⟩)⟩)⟩)⟩)⟩)⟩)⟩)⟩)⟩)⟩)⟩)⟩)⟩)⟩)⟩)⟩)⟩)⟩)⟩)⟩)⟩)⟩)⟩)
set_option maxRecDepth 100000 in
theorem tw_1156 : Cond.instanceMethod yX9_isOrder ∈ lw_tbl := List.mem_append_right _ (List.mem_append_right _ (List.mem_append_right _ (List.mem_append_right _ (List.mem_append_right _ (List.mem_append_left _ (List.mem_of_getElem? (i := 123) rfl))))))
set_option maxRecDepth 100000 in
theorem tw_1154 : Cond.methodLink RX9 147 yX9_isOrder ∈ lw_tbl := List.mem_append_right _ (List.mem_append_right _ (List.mem_append_right _ (List.mem_append_right _ (List.mem_append_right _ (List.mem_append_left _ (List.mem_of_getElem? (i := 121) rfl))))))
set_option maxRecDepth 100000 in
theorem tw_1153 : Cond.code yX9_round cX9_round 5 (some .int) ∈ lw_tbl := List.mem_append_right _ (List.mem_append_right _ (List.mem_append_right _ (List.mem_append_right _ (List.mem_append_right _ (List.mem_append_left _ (List.mem_of_getElem? (i := 120) rfl))))))
set_option maxRecDepth 100000 in
theorem tw_50 : Cond.selects RX9 yX9_round yX9_round ∈ lw_tbl := List.mem_append_left _ (List.mem_of_getElem? (i := 50) rfl)
set_option maxRecDepth 100000 in
theorem tw_1152 : Cond.instanceMethod yX9_round ∈ lw_tbl := List.mem_append_right _ (List.mem_append_right _ (List.mem_append_right _ (List.mem_append_right _ (List.mem_append_right _ (List.mem_append_left _ (List.mem_of_getElem? (i := 119) rfl))))))
set_option maxRecDepth 100000 in
theorem tw_1150 : Cond.methodLink RX9 175 yX9_round ∈ lw_tbl := List.mem_append_right _ (List.mem_append_right _ (List.mem_append_right _ (List.mem_append_right _ (List.mem_append_right _ (List.mem_append_left _ (List.mem_of_getElem? (i := 117) rfl))))))
set_option maxRecDepth 100000 in
theorem tw_1149 : Cond.code yX9_often cX9_often 5 (some .int) ∈ lw_tbl := List.mem_append_right _ (List.mem_append_right _ (List.mem_append_right _ (List.mem_append_right _ (List.mem_append_right _ (List.mem_append_left _ (List.mem_of_getElem? (i := 116) rfl))))))
set_option maxRecDepth 100000 in
theorem tw_49 : Cond.selects RX9 yX9_often yX9_often ∈ lw_tbl := List.mem_append_left _ (List.mem_of_getElem? (i := 49) rfl)
set_option maxRecDepth 100000 in
theorem tw_1148 : Cond.instanceMethod yX9_often ∈ lw_tbl := List.mem_append_right _ (List.mem_append_right _ (List.mem_append_right _ (List.mem_append_right _ (List.mem_append_right _ (List.mem_append_left _ (List.mem_of_getElem? (i := 115) rfl))))))
set_option maxRecDepth 100000 in
theorem tw_1146 : Cond.methodLink RX9 140 yX9_often ∈ lw_tbl := List.mem_append_right _ (List.mem_append_right _ (List.mem_append_right _ (List.mem_append_right _ (List.mem_append_right _ (List.mem_append_left _ (List.mem_of_getElem? (i := 113) rfl))))))
set_option maxRecDepth 100000 in
theorem tw_1145 : Cond.code yX9_usual cX9_usual 3 (some .int) ∈ lw_tbl := List.mem_append_right _ (List.mem_append_right _ (List.mem_append_right _ (List.mem_append_right _ (List.mem_append_right _ (List.mem_append_left _ (List.mem_of_getElem? (i := 112) rfl))))))
set_option maxRecDepth 100000 in
theorem tw_48 : Cond.selects RX9 yX9_usual yX9_usual ∈ lw_tbl := List.mem_append_left _ (List.mem_of_getElem? (i := 48) rfl)
set_option maxRecDepth 100000 in
theorem tw_1144 : Cond.instanceMethod yX9_usual ∈ lw_tbl := List.mem_append_right _ (List.mem_append_right _ (List.mem_append_right _ (List.mem_append_right _ (List.mem_append_right _ (List.mem_append_left _ (List.mem_of_getElem? (i := 111) rfl))))))
set_option maxRecDepth 100000 in
theorem tw_1142 : Cond.methodLink RX9 172 yX9_usual ∈ lw_tbl := List.mem_append_right _ (List.mem_append_right _ (List.mem_append_right _ (List.mem_append_right _ (List.mem_append_right _ (List.mem_append_left _ (List.mem_of_getElem? (i := 109) rfl))))))
set_option maxRecDepth 100000 in
theorem tw_1141 : Cond.code yX9_girth cX9_girth 4 (some .int) ∈ lw_tbl := List.mem_append_right _ (List.mem_append_right _ (List.mem_append_right _ (List.mem_append_right _ (List.mem_append_right _ (List.mem_append_left _ (List.mem_of_getElem? (i := 108) rfl))))))
set_option maxRecDepth 100000 in
theorem tw_47 : Cond.selects RX9 yX9_girth yX9_girth ∈ lw_tbl := List.mem_append_left _ (List.mem_of_getElem? (i := 47) rfl)
set_option maxRecDepth 100000 in
theorem tw_1140 : Cond.instanceMethod yX9_girth ∈ lw_tbl := List.mem_append_right _ (List.mem_append_right _ (List.mem_append_right _ (List.mem_append_right _ (List.mem_append_right _ (List.mem_append_left _ (List.mem_of_getElem? (i := 107) rfl))))))
set_option maxRecDepth 100000 in
theorem tw_1138 : Cond.methodLink RX9 169 yX9_girth ∈ lw_tbl := List.mem_append_right _ (List.mem_append_right _ (List.mem_append_right _ (List.mem_append_right _ (List.mem_append_right _ (List.mem_append_left _ (List.mem_of_getElem? (i := 105) rfl))))))
set_option maxRecDepth 100000 in
theorem tw_1137 : Cond.code yX9_span cX9_span 4 (some .int) ∈ lw_tbl := List.mem_append_right _ (List.mem_append_right _ (List.mem_append_right _ (List.mem_append_right _ (List.mem_append_right _ (List.mem_append_left _ (List.mem_of_getElem? (i := 104) rfl))))))
set_option maxRecDepth 100000 in
theorem dl_wsX9_told_r3 : ∀ w ∈ wsX9_told_r3, w ∈ lw_tbl := (List.forall_mem_cons.mpr ⟨tw_1137, (List.forall_mem_cons.mpr ⟨tw_1138, (List.forall_mem_cons.mpr ⟨tw_1140, (List.forall_mem_cons.mpr ⟨tw_47, (List.forall_mem_cons.mpr ⟨tw_1141, (List.forall_mem_cons.mpr ⟨tw_1142, (List.forall_mem_cons.mpr ⟨tw_1144, (List.forall_mem_cons.mpr ⟨tw_48, (List.forall_mem_cons.mpr ⟨tw_1145, (List.forall_mem_cons.mpr ⟨tw_1146, (List.forall_mem_cons.mpr ⟨tw_1148, (List.forall_mem_cons.mpr ⟨tw_49, (List.forall_mem_cons.mpr ⟨tw_1149, (List.forall_mem_cons.mpr ⟨tw_1150, (List.forall_mem_cons.mpr ⟨tw_1152, (List.forall_mem_cons.mpr ⟨tw_50, (List.forall_mem_cons.mpr ⟨tw_1153, (List.forall_mem_cons.mpr ⟨tw_929, (List.forall_mem_cons.mpr ⟨tw_1065, (List.forall_mem_cons.mpr ⟨tw_1067, (List.forall_mem_cons.mpr ⟨tw_32, (List.forall_mem_cons.mpr ⟨tw_1068, (List.forall_mem_cons.mpr ⟨tw_1154, (List.forall_mem_cons.mpr ⟨tw_1156, (fun _ h => absurd h List.not_mem_nil)⟩)⟩)⟩)⟩)⟩)⟩)⟩)⟩)⟩)⟩)⟩)⟩)⟩)⟩)⟩)⟩)⟩)⟩)⟩)⟩)⟩)⟩)⟩)⟩)
set_option maxRecDepth 100000 in
theorem tw_1161 : Cond.code yX9_keepers cX9_keepers 6 (some .int) ∈ lw_tbl := List.mem_append_right _ (List.mem_append_right _ (List.mem_append_right _ (List.mem_append_right _ (List.mem_append_right _ (List.mem_append_left _ (List.mem_of_getElem? (i := 128) rfl))))))
set_option maxRecDepth 100000 in
theorem tw_52 : Cond.selects RX9 yX9_keepers yX9_keepers ∈ lw_tbl := List.mem_append_left _ (List.mem_of_getElem? (i := 52) rfl)
set_option maxRecDepth 100000 in
theorem tw_1160 : Cond.instanceMethod yX9_keepers ∈ lw_tbl := List.mem_append_right _ (List.mem_append_right _ (List.mem_append_right _ (List.mem_append_right _ (List.mem_append_right _ (List.mem_append_left _ (List.mem_of_getElem? (i := 127) rfl))))))
set_option maxRecDepth 100000 in
theorem tw_1158 : Cond.methodLink RX9 178 yX9_keepers ∈ lw_tbl := List.mem_append_right _ (List.mem_append_right _ (List.mem_append_right _ (List.mem_append_right _ (List.mem_append_right _ (List.mem_append_left _ (List.mem_of_getElem? (i := 125) rfl))))))
set_option maxRecDepth 100000 in
theorem tw_1157 : Cond.code yX9_isOrder cX9_isOrder 5 (some .boolean) ∈ lw_tbl := List.mem_append_right _ (List.mem_append_right _ (List.mem_append_right _ (List.mem_append_right _ (List.mem_append_right _ (List.mem_append_left _ (List.mem_of_getElem? (i := 124) rfl))))))
set_option maxRecDepth 100000 in
theorem tw_51 : Cond.selects RX9 yX9_isOrder yX9_isOrder ∈ lw_tbl := List.mem_append_left _ (List.mem_of_getElem? (i := 51) rfl)
set_option maxRecDepth 100000 in
theorem dl_wsX9_told_r4 : ∀ w ∈ wsX9_told_r4, w ∈ lw_tbl := (List.forall_mem_cons.mpr ⟨tw_51, (List.forall_mem_cons.mpr ⟨tw_1157, (List.forall_mem_cons.mpr ⟨tw_1158, (List.forall_mem_cons.mpr ⟨tw_1160, (List.forall_mem_cons.mpr ⟨tw_52, (List.forall_mem_cons.mpr ⟨tw_1161, (fun _ h => absurd h List.not_mem_nil)⟩)⟩)⟩)⟩)⟩)⟩)
set_option maxRecDepth 100000 in
theorem dl_wsX9_told : ∀ w ∈ wsX9_told, w ∈ lw_tbl := (List.forall_mem_cons.mpr ⟨tw_1121, (List.forall_mem_append.mpr ⟨(List.forall_mem_append.mpr ⟨dl_wsX9_told_r1, (List.forall_mem_append.mpr ⟨dl_wsX9_told_r2, (List.forall_mem_append.mpr ⟨dl_wsX9_told_r3, dl_wsX9_told_r4⟩)⟩)⟩), fu_wsX90⟩)⟩)
set_option maxRecDepth 100000 in
theorem tw_1120 : Cond.selects RX9 yX9_told yX9_told ∈ lw_tbl := List.mem_append_right _ (List.mem_append_right _ (List.mem_append_right _ (List.mem_append_right _ (List.mem_append_right _ (List.mem_append_left _ (List.mem_of_getElem? (i := 87) rfl))))))
set_option maxRecDepth 100000 in
theorem tw_1119 : Cond.instanceMethod yX9_told ∈ lw_tbl := List.mem_append_right _ (List.mem_append_right _ (List.mem_append_right _ (List.mem_append_right _ (List.mem_append_right _ (List.mem_append_left _ (List.mem_of_getElem? (i := 86) rfl))))))
set_option maxRecDepth 100000 in
theorem tw_1118 : Cond.methodLink RL 56 yX9_told ∈ lw_tbl := List.mem_append_right _ (List.mem_append_right _ (List.mem_append_right _ (List.mem_append_right _ (List.mem_append_right _ (List.mem_append_left _ (List.mem_of_getElem? (i := 85) rfl))))))
set_option maxRecDepth 100000 in
theorem tw_626 : Cond.code yX8_functionOf cX8_functionOf 2 (some .int) ∈ lw_tbl := List.mem_append_right _ (List.mem_append_right _ (List.mem_append_right _ (List.mem_append_left _ (List.mem_of_getElem? (i := 73) rfl))))
set_option maxRecDepth 100000 in
theorem tw_627 : Cond.methodLink RX8 168 yX7_keepApart ∈ lw_tbl := List.mem_append_right _ (List.mem_append_right _ (List.mem_append_right _ (List.mem_append_left _ (List.mem_of_getElem? (i := 74) rfl))))
set_option maxRecDepth 100000 in
theorem dl_wsX8_functionOf_r1 : ∀ w ∈ wsX8_functionOf_r1, w ∈ lw_tbl := (List.forall_mem_cons.mpr ⟨tw_291, (List.forall_mem_cons.mpr ⟨tw_163, (List.forall_mem_cons.mpr ⟨tw_166, (List.forall_mem_cons.mpr ⟨tw_125, (List.forall_mem_cons.mpr ⟨tw_360, (List.forall_mem_cons.mpr ⟨tw_361, (List.forall_mem_cons.mpr ⟨tw_362, (List.forall_mem_cons.mpr ⟨tw_76, (List.forall_mem_cons.mpr ⟨tw_363, (List.forall_mem_cons.mpr ⟨tw_126, (List.forall_mem_cons.mpr ⟨tw_627, (List.forall_mem_cons.mpr ⟨tw_438, (List.forall_mem_cons.mpr ⟨tw_85, (List.forall_mem_cons.mpr ⟨tw_439, (List.forall_mem_cons.mpr ⟨tw_130, (List.forall_mem_cons.mpr ⟨tw_375, (List.forall_mem_cons.mpr ⟨tw_327, (List.forall_mem_cons.mpr ⟨tw_328, (List.forall_mem_cons.mpr ⟨tw_329, (List.forall_mem_cons.mpr ⟨tw_131, (List.forall_mem_cons.mpr ⟨tw_577, (List.forall_mem_cons.mpr ⟨tw_578, (List.forall_mem_cons.mpr ⟨tw_74, (List.forall_mem_cons.mpr ⟨tw_579, (fun _ h => absurd h List.not_mem_nil)⟩)⟩)⟩)⟩)⟩)⟩)⟩)⟩)⟩)⟩)⟩)⟩)⟩)⟩)⟩)⟩)⟩)⟩)⟩)⟩)⟩)⟩)⟩)⟩)
set_option maxRecDepth 100000 in
theorem tw_645 : Cond.code yX7_walksFrom cX7_walksFrom 7 (some .int) ∈ lw_tbl := List.mem_append_right _ (List.mem_append_right _ (List.mem_append_right _ (List.mem_append_left _ (List.mem_of_getElem? (i := 92) rfl))))
set_option maxRecDepth 100000 in
theorem tw_644 : Cond.static yX7_walksFrom ∈ lw_tbl := List.mem_append_right _ (List.mem_append_right _ (List.mem_append_right _ (List.mem_append_left _ (List.mem_of_getElem? (i := 91) rfl))))
set_option maxRecDepth 100000 in
theorem tw_643 : Cond.methodLink RX7 43 yX7_walksFrom ∈ lw_tbl := List.mem_append_right _ (List.mem_append_right _ (List.mem_append_right _ (List.mem_append_left _ (List.mem_of_getElem? (i := 90) rfl))))
set_option maxRecDepth 100000 in
theorem tw_642 : Cond.code yX7_depth cX7_depth 8 (some .int) ∈ lw_tbl := List.mem_append_right _ (List.mem_append_right _ (List.mem_append_right _ (List.mem_append_left _ (List.mem_of_getElem? (i := 89) rfl))))
set_option maxRecDepth 100000 in
theorem tw_641 : Cond.static yX7_depth ∈ lw_tbl := List.mem_append_right _ (List.mem_append_right _ (List.mem_append_right _ (List.mem_append_left _ (List.mem_of_getElem? (i := 88) rfl))))
set_option maxRecDepth 100000 in
theorem tw_640 : Cond.methodLink RX8 181 yX7_depth ∈ lw_tbl := List.mem_append_right _ (List.mem_append_right _ (List.mem_append_right _ (List.mem_append_left _ (List.mem_of_getElem? (i := 87) rfl))))
set_option maxRecDepth 100000 in
theorem tw_639 : Cond.methodLink RX8 177 yX7_tightTwos ∈ lw_tbl := List.mem_append_right _ (List.mem_append_right _ (List.mem_append_right _ (List.mem_append_left _ (List.mem_of_getElem? (i := 86) rfl))))
set_option maxRecDepth 100000 in
theorem tw_638 : Cond.code yX7_partners cX7_partners 2 (some .int) ∈ lw_tbl := List.mem_append_right _ (List.mem_append_right _ (List.mem_append_right _ (List.mem_append_left _ (List.mem_of_getElem? (i := 85) rfl))))
set_option maxRecDepth 100000 in
theorem tw_637 : Cond.static yX7_partners ∈ lw_tbl := List.mem_append_right _ (List.mem_append_right _ (List.mem_append_right _ (List.mem_append_left _ (List.mem_of_getElem? (i := 84) rfl))))
set_option maxRecDepth 100000 in
theorem tw_636 : Cond.methodLink RX7 11 yX7_partners ∈ lw_tbl := List.mem_append_right _ (List.mem_append_right _ (List.mem_append_right _ (List.mem_append_left _ (List.mem_of_getElem? (i := 83) rfl))))
set_option maxRecDepth 100000 in
theorem tw_635 : Cond.code yX7_coverAll cX7_coverAll 3 (some .boolean) ∈ lw_tbl := List.mem_append_right _ (List.mem_append_right _ (List.mem_append_right _ (List.mem_append_left _ (List.mem_of_getElem? (i := 82) rfl))))
set_option maxRecDepth 100000 in
theorem tw_634 : Cond.static yX7_coverAll ∈ lw_tbl := List.mem_append_right _ (List.mem_append_right _ (List.mem_append_right _ (List.mem_append_left _ (List.mem_of_getElem? (i := 81) rfl))))
set_option maxRecDepth 100000 in
theorem tw_633 : Cond.methodLink RX7 39 yX7_coverAll ∈ lw_tbl := List.mem_append_right _ (List.mem_append_right _ (List.mem_append_right _ (List.mem_append_left _ (List.mem_of_getElem? (i := 80) rfl))))
set_option maxRecDepth 100000 in
theorem tw_632 : Cond.methodLink RX7 35 yX7_tightTwos ∈ lw_tbl := List.mem_append_right _ (List.mem_append_right _ (List.mem_append_right _ (List.mem_append_left _ (List.mem_of_getElem? (i := 79) rfl))))
set_option maxRecDepth 100000 in
theorem tw_631 : Cond.methodLink RX7 31 yX7_keepApart ∈ lw_tbl := List.mem_append_right _ (List.mem_append_right _ (List.mem_append_right _ (List.mem_append_left _ (List.mem_of_getElem? (i := 78) rfl))))
set_option maxRecDepth 100000 in
theorem tw_630 : Cond.code yX7_areLeast cX7_areLeast 2 (some .boolean) ∈ lw_tbl := List.mem_append_right _ (List.mem_append_right _ (List.mem_append_right _ (List.mem_append_left _ (List.mem_of_getElem? (i := 77) rfl))))
set_option maxRecDepth 100000 in
theorem tw_629 : Cond.static yX7_areLeast ∈ lw_tbl := List.mem_append_right _ (List.mem_append_right _ (List.mem_append_right _ (List.mem_append_left _ (List.mem_of_getElem? (i := 76) rfl))))
set_option maxRecDepth 100000 in
theorem tw_628 : Cond.methodLink RX8 174 yX7_areLeast ∈ lw_tbl := List.mem_append_right _ (List.mem_append_right _ (List.mem_append_right _ (List.mem_append_left _ (List.mem_of_getElem? (i := 75) rfl))))
set_option maxRecDepth 100000 in
theorem dl_wsX8_functionOf_r2 : ∀ w ∈ wsX8_functionOf_r2, w ∈ lw_tbl := (List.forall_mem_cons.mpr ⟨tw_628, (List.forall_mem_cons.mpr ⟨tw_629, (List.forall_mem_cons.mpr ⟨tw_630, (List.forall_mem_cons.mpr ⟨tw_631, (List.forall_mem_cons.mpr ⟨tw_632, (List.forall_mem_cons.mpr ⟨tw_455, (List.forall_mem_cons.mpr ⟨tw_456, (List.forall_mem_cons.mpr ⟨tw_633, (List.forall_mem_cons.mpr ⟨tw_634, (List.forall_mem_cons.mpr ⟨tw_635, (List.forall_mem_cons.mpr ⟨tw_636, (List.forall_mem_cons.mpr ⟨tw_637, (List.forall_mem_cons.mpr ⟨tw_638, (List.forall_mem_cons.mpr ⟨tw_639, (List.forall_mem_cons.mpr ⟨tw_640, (List.forall_mem_cons.mpr ⟨tw_641, (List.forall_mem_cons.mpr ⟨tw_642, (List.forall_mem_cons.mpr ⟨tw_643, (List.forall_mem_cons.mpr ⟨tw_644, (List.forall_mem_cons.mpr ⟨tw_645, (fun _ h => absurd h List.not_mem_nil)⟩)⟩)⟩)⟩)⟩)⟩)⟩)⟩)⟩)⟩)⟩)⟩)⟩)⟩)⟩)⟩)⟩)⟩)⟩)⟩)
set_option maxRecDepth 100000 in
theorem dl_wsX8_functionOf : ∀ w ∈ wsX8_functionOf, w ∈ lw_tbl := (List.forall_mem_cons.mpr ⟨tw_626, (List.forall_mem_append.mpr ⟨(List.forall_mem_append.mpr ⟨(List.forall_mem_append.mpr ⟨(List.forall_mem_append.mpr ⟨dl_wsX8_functionOf_r1, dl_wsX8_functionOf_r2⟩), fu_wsX80⟩), fu_wsX20⟩), fu_wsX40⟩)⟩)
set_option maxRecDepth 100000 in
theorem tw_625 : Cond.selects RX8 yX8_functionOf yX8_functionOf ∈ lw_tbl := List.mem_append_right _ (List.mem_append_right _ (List.mem_append_right _ (List.mem_append_left _ (List.mem_of_getElem? (i := 72) rfl))))
set_option maxRecDepth 100000 in
theorem tw_624 : Cond.instanceMethod yX8_functionOf ∈ lw_tbl := List.mem_append_right _ (List.mem_append_right _ (List.mem_append_right _ (List.mem_append_left _ (List.mem_of_getElem? (i := 71) rfl))))
set_option maxRecDepth 100000 in
theorem tw_623 : Cond.methodLink RL 57 yX8_functionOf ∈ lw_tbl := List.mem_append_right _ (List.mem_append_right _ (List.mem_append_right _ (List.mem_append_left _ (List.mem_of_getElem? (i := 70) rfl))))
set_option maxRecDepth 100000 in
theorem tw_1165 : Cond.code yX9_functionOf cX9_functionOf 2 (some .int) ∈ lw_tbl := List.mem_append_right _ (List.mem_append_right _ (List.mem_append_right _ (List.mem_append_right _ (List.mem_append_right _ (List.mem_append_left _ (List.mem_of_getElem? (i := 132) rfl))))))
set_option maxRecDepth 100000 in
theorem tw_1170 : Cond.methodLink RX9 181 yX9_isTight ∈ lw_tbl := List.mem_append_right _ (List.mem_append_right _ (List.mem_append_right _ (List.mem_append_right _ (List.mem_append_right _ (List.mem_append_left _ (List.mem_of_getElem? (i := 137) rfl))))))
set_option maxRecDepth 100000 in
theorem tw_1169 : Cond.code yX9_isLeast cX9_isLeast 6 (some .boolean) ∈ lw_tbl := List.mem_append_right _ (List.mem_append_right _ (List.mem_append_right _ (List.mem_append_right _ (List.mem_append_right _ (List.mem_append_left _ (List.mem_of_getElem? (i := 136) rfl))))))
set_option maxRecDepth 100000 in
theorem tw_53 : Cond.selects RX9 yX9_isLeast yX9_isLeast ∈ lw_tbl := List.mem_append_left _ (List.mem_of_getElem? (i := 53) rfl)
set_option maxRecDepth 100000 in
theorem tw_1168 : Cond.instanceMethod yX9_isLeast ∈ lw_tbl := List.mem_append_right _ (List.mem_append_right _ (List.mem_append_right _ (List.mem_append_right _ (List.mem_append_right _ (List.mem_append_left _ (List.mem_of_getElem? (i := 135) rfl))))))
set_option maxRecDepth 100000 in
theorem tw_1166 : Cond.methodLink RX9 193 yX9_isLeast ∈ lw_tbl := List.mem_append_right _ (List.mem_append_right _ (List.mem_append_right _ (List.mem_append_right _ (List.mem_append_right _ (List.mem_append_left _ (List.mem_of_getElem? (i := 133) rfl))))))
set_option maxRecDepth 100000 in
theorem dl_wsX9_functionOf_r1 : ∀ w ∈ wsX9_functionOf_r1, w ∈ lw_tbl := (List.forall_mem_cons.mpr ⟨tw_909, (List.forall_mem_cons.mpr ⟨tw_1032, (List.forall_mem_cons.mpr ⟨tw_1034, (List.forall_mem_cons.mpr ⟨tw_27, (List.forall_mem_cons.mpr ⟨tw_83, (List.forall_mem_cons.mpr ⟨tw_1035, (List.forall_mem_cons.mpr ⟨tw_907, (List.forall_mem_cons.mpr ⟨tw_1017, (List.forall_mem_cons.mpr ⟨tw_1018, (List.forall_mem_cons.mpr ⟨tw_1019, (List.forall_mem_cons.mpr ⟨tw_1073, (List.forall_mem_cons.mpr ⟨tw_1075, (List.forall_mem_cons.mpr ⟨tw_34, (List.forall_mem_cons.mpr ⟨tw_1076, (List.forall_mem_cons.mpr ⟨tw_1036, (List.forall_mem_cons.mpr ⟨tw_1038, (List.forall_mem_cons.mpr ⟨tw_28, (List.forall_mem_cons.mpr ⟨tw_1039, (List.forall_mem_cons.mpr ⟨tw_908, (List.forall_mem_cons.mpr ⟨tw_1166, (List.forall_mem_cons.mpr ⟨tw_1168, (List.forall_mem_cons.mpr ⟨tw_53, (List.forall_mem_cons.mpr ⟨tw_1169, (List.forall_mem_cons.mpr ⟨tw_1170, (fun _ h => absurd h List.not_mem_nil)⟩)⟩)⟩)⟩)⟩)⟩)⟩)⟩)⟩)⟩)⟩)⟩)⟩)⟩)⟩)⟩)⟩)⟩)⟩)⟩)⟩)⟩)⟩)⟩)
set_option maxRecDepth 100000 in
theorem tw_1181 : Cond.code yX9_reached cX9_reached 10 (some .int) ∈ lw_tbl := List.mem_append_right _ (List.mem_append_right _ (List.mem_append_right _ (List.mem_append_right _ (List.mem_append_right _ (List.mem_append_left _ (List.mem_of_getElem? (i := 148) rfl))))))
set_option maxRecDepth 100000 in
theorem tw_56 : Cond.selects RX9 yX9_reached yX9_reached ∈ lw_tbl := List.mem_append_left _ (List.mem_of_getElem? (i := 56) rfl)
set_option maxRecDepth 100000 in
theorem tw_1180 : Cond.instanceMethod yX9_reached ∈ lw_tbl := List.mem_append_right _ (List.mem_append_right _ (List.mem_append_right _ (List.mem_append_right _ (List.mem_append_right _ (List.mem_append_left _ (List.mem_of_getElem? (i := 147) rfl))))))
set_option maxRecDepth 100000 in
theorem tw_1178 : Cond.methodLink RX9 189 yX9_reached ∈ lw_tbl := List.mem_append_right _ (List.mem_append_right _ (List.mem_append_right _ (List.mem_append_right _ (List.mem_append_right _ (List.mem_append_left _ (List.mem_of_getElem? (i := 145) rfl))))))
set_option maxRecDepth 100000 in
theorem tw_1177 : Cond.code yX9_depth cX9_depth 9 (some .int) ∈ lw_tbl := List.mem_append_right _ (List.mem_append_right _ (List.mem_append_right _ (List.mem_append_right _ (List.mem_append_right _ (List.mem_append_left _ (List.mem_of_getElem? (i := 144) rfl))))))
set_option maxRecDepth 100000 in
theorem tw_55 : Cond.selects RX9 yX9_depth yX9_depth ∈ lw_tbl := List.mem_append_left _ (List.mem_of_getElem? (i := 55) rfl)
set_option maxRecDepth 100000 in
theorem tw_1176 : Cond.instanceMethod yX9_depth ∈ lw_tbl := List.mem_append_right _ (List.mem_append_right _ (List.mem_append_right _ (List.mem_append_right _ (List.mem_append_right _ (List.mem_append_left _ (List.mem_of_getElem? (i := 143) rfl))))))
set_option maxRecDepth 100000 in
theorem tw_1174 : Cond.methodLink RX9 196 yX9_depth ∈ lw_tbl := List.mem_append_right _ (List.mem_append_right _ (List.mem_append_right _ (List.mem_append_right _ (List.mem_append_right _ (List.mem_append_left _ (List.mem_of_getElem? (i := 141) rfl))))))
set_option maxRecDepth 100000 in
theorem tw_1173 : Cond.code yX9_isTight cX9_isTight 5 (some .boolean) ∈ lw_tbl := List.mem_append_right _ (List.mem_append_right _ (List.mem_append_right _ (List.mem_append_right _ (List.mem_append_right _ (List.mem_append_left _ (List.mem_of_getElem? (i := 140) rfl))))))
set_option maxRecDepth 100000 in
theorem tw_54 : Cond.selects RX9 yX9_isTight yX9_isTight ∈ lw_tbl := List.mem_append_left _ (List.mem_of_getElem? (i := 54) rfl)
set_option maxRecDepth 100000 in
theorem tw_1172 : Cond.instanceMethod yX9_isTight ∈ lw_tbl := List.mem_append_right _ (List.mem_append_right _ (List.mem_append_right _ (List.mem_append_right _ (List.mem_append_right _ (List.mem_append_left _ (List.mem_of_getElem? (i := 139) rfl))))))
set_option maxRecDepth 100000 in
theorem dl_wsX9_functionOf_r2 : ∀ w ∈ wsX9_functionOf_r2, w ∈ lw_tbl := (List.forall_mem_cons.mpr ⟨tw_1172, (List.forall_mem_cons.mpr ⟨tw_54, (List.forall_mem_cons.mpr ⟨tw_1173, (List.forall_mem_cons.mpr ⟨tw_1174, (List.forall_mem_cons.mpr ⟨tw_1176, (List.forall_mem_cons.mpr ⟨tw_55, (List.forall_mem_cons.mpr ⟨tw_1177, (List.forall_mem_cons.mpr ⟨tw_1178, (List.forall_mem_cons.mpr ⟨tw_1180, (List.forall_mem_cons.mpr ⟨tw_56, (List.forall_mem_cons.mpr ⟨tw_1181, (fun _ h => absurd h List.not_mem_nil)⟩)⟩)⟩)⟩)⟩)⟩)⟩)⟩)⟩)⟩)⟩)
set_option maxRecDepth 100000 in
theorem dl_wsX9_functionOf : ∀ w ∈ wsX9_functionOf, w ∈ lw_tbl := (List.forall_mem_cons.mpr ⟨tw_1165, (List.forall_mem_append.mpr ⟨(List.forall_mem_append.mpr ⟨dl_wsX9_functionOf_r1, dl_wsX9_functionOf_r2⟩), fu_wsX90⟩)⟩)
set_option maxRecDepth 100000 in
theorem tw_1164 : Cond.selects RX9 yX9_functionOf yX9_functionOf ∈ lw_tbl := List.mem_append_right _ (List.mem_append_right _ (List.mem_append_right _ (List.mem_append_right _ (List.mem_append_right _ (List.mem_append_left _ (List.mem_of_getElem? (i := 131) rfl))))))
set_option maxRecDepth 100000 in
theorem tw_1163 : Cond.instanceMethod yX9_functionOf ∈ lw_tbl := List.mem_append_right _ (List.mem_append_right _ (List.mem_append_right _ (List.mem_append_right _ (List.mem_append_right _ (List.mem_append_left _ (List.mem_of_getElem? (i := 130) rfl))))))
set_option maxRecDepth 100000 in
theorem tw_1162 : Cond.methodLink RL 60 yX9_functionOf ∈ lw_tbl := List.mem_append_right _ (List.mem_append_right _ (List.mem_append_right _ (List.mem_append_right _ (List.mem_append_right _ (List.mem_append_left _ (List.mem_of_getElem? (i := 129) rfl))))))
set_option maxRecDepth 100000 in
theorem tw_649 : Cond.code yX8_mapOf cX8_mapOf 2 (some .int) ∈ lw_tbl := List.mem_append_right _ (List.mem_append_right _ (List.mem_append_right _ (List.mem_append_left _ (List.mem_of_getElem? (i := 96) rfl))))
set_option maxRecDepth 100000 in
theorem tw_653 : Cond.code yX2_mapHolds cX2_mapHolds 5 (some .boolean) ∈ lw_tbl := List.mem_append_right _ (List.mem_append_right _ (List.mem_append_right _ (List.mem_append_left _ (List.mem_of_getElem? (i := 100) rfl))))
set_option maxRecDepth 100000 in
theorem tw_652 : Cond.selects RX2 yX2_mapHolds yX2_mapHolds ∈ lw_tbl := List.mem_append_right _ (List.mem_append_right _ (List.mem_append_right _ (List.mem_append_left _ (List.mem_of_getElem? (i := 99) rfl))))
set_option maxRecDepth 100000 in
theorem tw_651 : Cond.instanceMethod yX2_mapHolds ∈ lw_tbl := List.mem_append_right _ (List.mem_append_right _ (List.mem_append_right _ (List.mem_append_left _ (List.mem_of_getElem? (i := 98) rfl))))
set_option maxRecDepth 100000 in
theorem tw_650 : Cond.methodLink RX8 184 yX2_mapHolds ∈ lw_tbl := List.mem_append_right _ (List.mem_append_right _ (List.mem_append_right _ (List.mem_append_left _ (List.mem_of_getElem? (i := 97) rfl))))
set_option maxRecDepth 100000 in
theorem dl_wsX8_mapOf_r1 : ∀ w ∈ wsX8_mapOf_r1, w ∈ lw_tbl := (List.forall_mem_cons.mpr ⟨tw_291, (List.forall_mem_cons.mpr ⟨tw_163, (List.forall_mem_cons.mpr ⟨tw_168, (List.forall_mem_cons.mpr ⟨tw_360, (List.forall_mem_cons.mpr ⟨tw_361, (List.forall_mem_cons.mpr ⟨tw_362, (List.forall_mem_cons.mpr ⟨tw_76, (List.forall_mem_cons.mpr ⟨tw_363, (List.forall_mem_cons.mpr ⟨tw_126, (List.forall_mem_cons.mpr ⟨tw_650, (List.forall_mem_cons.mpr ⟨tw_651, (List.forall_mem_cons.mpr ⟨tw_652, (List.forall_mem_cons.mpr ⟨tw_75, (List.forall_mem_cons.mpr ⟨tw_653, (List.forall_mem_cons.mpr ⟨tw_162, (List.forall_mem_cons.mpr ⟨tw_129, (List.forall_mem_cons.mpr ⟨tw_167, (List.forall_mem_cons.mpr ⟨tw_531, (List.forall_mem_cons.mpr ⟨tw_327, (List.forall_mem_cons.mpr ⟨tw_328, (List.forall_mem_cons.mpr ⟨tw_329, (List.forall_mem_cons.mpr ⟨tw_131, (List.forall_mem_cons.mpr ⟨tw_577, (List.forall_mem_cons.mpr ⟨tw_578, (fun _ h => absurd h List.not_mem_nil)⟩)⟩)⟩)⟩)⟩)⟩)⟩)⟩)⟩)⟩)⟩)⟩)⟩)⟩)⟩)⟩)⟩)⟩)⟩)⟩)⟩)⟩)⟩)⟩)
set_option maxRecDepth 100000 in
theorem dl_wsX8_mapOf_r2 : ∀ w ∈ wsX8_mapOf_r2, w ∈ lw_tbl := (List.forall_mem_cons.mpr ⟨tw_74, (List.forall_mem_cons.mpr ⟨tw_579, (fun _ h => absurd h List.not_mem_nil)⟩)⟩)
set_option maxRecDepth 100000 in
theorem dl_wsX8_mapOf : ∀ w ∈ wsX8_mapOf, w ∈ lw_tbl := (List.forall_mem_cons.mpr ⟨tw_649, (List.forall_mem_append.mpr ⟨(List.forall_mem_append.mpr ⟨(List.forall_mem_append.mpr ⟨(List.forall_mem_append.mpr ⟨dl_wsX8_mapOf_r1, dl_wsX8_mapOf_r2⟩), fu_wsX80⟩), fu_wsX20⟩), fu_wsX40⟩)⟩)
set_option maxRecDepth 100000 in
theorem tw_648 : Cond.selects RX8 yX8_mapOf yX8_mapOf ∈ lw_tbl := List.mem_append_right _ (List.mem_append_right _ (List.mem_append_right _ (List.mem_append_left _ (List.mem_of_getElem? (i := 95) rfl))))
set_option maxRecDepth 100000 in
theorem tw_647 : Cond.instanceMethod yX8_mapOf ∈ lw_tbl := List.mem_append_right _ (List.mem_append_right _ (List.mem_append_right _ (List.mem_append_left _ (List.mem_of_getElem? (i := 94) rfl))))
set_option maxRecDepth 100000 in
theorem tw_646 : Cond.methodLink RL 61 yX8_mapOf ∈ lw_tbl := List.mem_append_right _ (List.mem_append_right _ (List.mem_append_right _ (List.mem_append_left _ (List.mem_of_getElem? (i := 93) rfl))))
set_option maxRecDepth 100000 in
theorem tw_1185 : Cond.code yX9_mapOf cX9_mapOf 5 (some .int) ∈ lw_tbl := List.mem_append_right _ (List.mem_append_right _ (List.mem_append_right _ (List.mem_append_right _ (List.mem_append_right _ (List.mem_append_left _ (List.mem_of_getElem? (i := 152) rfl))))))
set_option maxRecDepth 100000 in
theorem dl_wsX9_mapOf : ∀ w ∈ wsX9_mapOf, w ∈ lw_tbl := (List.forall_mem_cons.mpr ⟨tw_1185, (List.forall_mem_append.mpr ⟨(List.forall_mem_cons.mpr ⟨tw_910, (List.forall_mem_cons.mpr ⟨tw_907, (List.forall_mem_cons.mpr ⟨tw_1032, (List.forall_mem_cons.mpr ⟨tw_1034, (List.forall_mem_cons.mpr ⟨tw_27, (List.forall_mem_cons.mpr ⟨tw_83, (List.forall_mem_cons.mpr ⟨tw_1035, (List.forall_mem_cons.mpr ⟨tw_1017, (List.forall_mem_cons.mpr ⟨tw_1018, (List.forall_mem_cons.mpr ⟨tw_1019, (List.forall_mem_cons.mpr ⟨tw_1036, (List.forall_mem_cons.mpr ⟨tw_1038, (List.forall_mem_cons.mpr ⟨tw_28, (List.forall_mem_cons.mpr ⟨tw_1039, (List.forall_mem_cons.mpr ⟨tw_908, (fun _ h => absurd h List.not_mem_nil)⟩)⟩)⟩)⟩)⟩)⟩)⟩)⟩)⟩)⟩)⟩)⟩)⟩)⟩)⟩), fu_wsX90⟩)⟩)
set_option maxRecDepth 100000 in
theorem tw_1184 : Cond.selects RX9 yX9_mapOf yX9_mapOf ∈ lw_tbl := List.mem_append_right _ (List.mem_append_right _ (List.mem_append_right _ (List.mem_append_right _ (List.mem_append_right _ (List.mem_append_left _ (List.mem_of_getElem? (i := 151) rfl))))))
set_option maxRecDepth 100000 in
theorem tw_1183 : Cond.instanceMethod yX9_mapOf ∈ lw_tbl := List.mem_append_right _ (List.mem_append_right _ (List.mem_append_right _ (List.mem_append_right _ (List.mem_append_right _ (List.mem_append_left _ (List.mem_of_getElem? (i := 150) rfl))))))
set_option maxRecDepth 100000 in
theorem tw_1182 : Cond.methodLink RL 64 yX9_mapOf ∈ lw_tbl := List.mem_append_right _ (List.mem_append_right _ (List.mem_append_right _ (List.mem_append_right _ (List.mem_append_right _ (List.mem_append_left _ (List.mem_of_getElem? (i := 149) rfl))))))
set_option maxRecDepth 100000 in
theorem tw_657 : Cond.code yX8_middle cX8_middle 4 (some .int) ∈ lw_tbl := List.mem_append_right _ (List.mem_append_right _ (List.mem_append_right _ (List.mem_append_left _ (List.mem_of_getElem? (i := 104) rfl))))
set_option maxRecDepth 100000 in
theorem dl_wsX8_middle : ∀ w ∈ wsX8_middle, w ∈ lw_tbl := (List.forall_mem_cons.mpr ⟨tw_657, (List.forall_mem_append.mpr ⟨(List.forall_mem_append.mpr ⟨(List.forall_mem_append.mpr ⟨(List.forall_mem_cons.mpr ⟨tw_291, (List.forall_mem_cons.mpr ⟨tw_163, (List.forall_mem_cons.mpr ⟨tw_360, (List.forall_mem_cons.mpr ⟨tw_361, (List.forall_mem_cons.mpr ⟨tw_362, (List.forall_mem_cons.mpr ⟨tw_76, (List.forall_mem_cons.mpr ⟨tw_363, (List.forall_mem_cons.mpr ⟨tw_126, (List.forall_mem_cons.mpr ⟨tw_326, (List.forall_mem_cons.mpr ⟨tw_327, (List.forall_mem_cons.mpr ⟨tw_328, (List.forall_mem_cons.mpr ⟨tw_329, (List.forall_mem_cons.mpr ⟨tw_131, (fun _ h => absurd h List.not_mem_nil)⟩)⟩)⟩)⟩)⟩)⟩)⟩)⟩)⟩)⟩)⟩)⟩)⟩), fu_wsX80⟩), fu_wsX20⟩), fu_wsX40⟩)⟩)
set_option maxRecDepth 100000 in
theorem tw_656 : Cond.selects RX8 yX8_middle yX8_middle ∈ lw_tbl := List.mem_append_right _ (List.mem_append_right _ (List.mem_append_right _ (List.mem_append_left _ (List.mem_of_getElem? (i := 103) rfl))))
set_option maxRecDepth 100000 in
theorem tw_655 : Cond.instanceMethod yX8_middle ∈ lw_tbl := List.mem_append_right _ (List.mem_append_right _ (List.mem_append_right _ (List.mem_append_left _ (List.mem_of_getElem? (i := 102) rfl))))
set_option maxRecDepth 100000 in
theorem tw_654 : Cond.methodLink RL 65 yX8_middle ∈ lw_tbl := List.mem_append_right _ (List.mem_append_right _ (List.mem_append_right _ (List.mem_append_left _ (List.mem_of_getElem? (i := 101) rfl))))
set_option maxRecDepth 100000 in
theorem tw_1189 : Cond.code yX9_middle cX9_middle 4 (some .int) ∈ lw_tbl := List.mem_append_right _ (List.mem_append_right _ (List.mem_append_right _ (List.mem_append_right _ (List.mem_append_right _ (List.mem_append_left _ (List.mem_of_getElem? (i := 156) rfl))))))
set_option maxRecDepth 100000 in
theorem dl_wsX9_middle : ∀ w ∈ wsX9_middle, w ∈ lw_tbl := (List.forall_mem_cons.mpr ⟨tw_1189, (List.forall_mem_append.mpr ⟨(List.forall_mem_cons.mpr ⟨tw_1032, (List.forall_mem_cons.mpr ⟨tw_1034, (List.forall_mem_cons.mpr ⟨tw_27, (List.forall_mem_cons.mpr ⟨tw_83, (List.forall_mem_cons.mpr ⟨tw_1035, (List.forall_mem_cons.mpr ⟨tw_907, (List.forall_mem_cons.mpr ⟨tw_1017, (List.forall_mem_cons.mpr ⟨tw_1018, (List.forall_mem_cons.mpr ⟨tw_1019, (List.forall_mem_cons.mpr ⟨tw_1036, (List.forall_mem_cons.mpr ⟨tw_1038, (List.forall_mem_cons.mpr ⟨tw_28, (List.forall_mem_cons.mpr ⟨tw_1039, (List.forall_mem_cons.mpr ⟨tw_908, (fun _ h => absurd h List.not_mem_nil)⟩)⟩)⟩)⟩)⟩)⟩)⟩)⟩)⟩)⟩)⟩)⟩)⟩)⟩), fu_wsX90⟩)⟩)
set_option maxRecDepth 100000 in
theorem tw_1188 : Cond.selects RX9 yX9_middle yX9_middle ∈ lw_tbl := List.mem_append_right _ (List.mem_append_right _ (List.mem_append_right _ (List.mem_append_right _ (List.mem_append_right _ (List.mem_append_left _ (List.mem_of_getElem? (i := 155) rfl))))))
set_option maxRecDepth 100000 in
theorem tw_1187 : Cond.instanceMethod yX9_middle ∈ lw_tbl := List.mem_append_right _ (List.mem_append_right _ (List.mem_append_right _ (List.mem_append_right _ (List.mem_append_right _ (List.mem_append_left _ (List.mem_of_getElem? (i := 154) rfl))))))
set_option maxRecDepth 100000 in
theorem tw_1186 : Cond.methodLink RL 68 yX9_middle ∈ lw_tbl := List.mem_append_right _ (List.mem_append_right _ (List.mem_append_right _ (List.mem_append_right _ (List.mem_append_right _ (List.mem_append_left _ (List.mem_of_getElem? (i := 153) rfl))))))
set_option maxRecDepth 100000 in
theorem tw_661 : Cond.code yX8_corners cX8_corners 1 (some .int) ∈ lw_tbl := List.mem_append_right _ (List.mem_append_right _ (List.mem_append_right _ (List.mem_append_left _ (List.mem_of_getElem? (i := 108) rfl))))
set_option maxRecDepth 100000 in
theorem tw_233 : Cond.fieldLink RX8 192 "TightHulls$Hull" "held" "I" ∈ lw_tbl := List.mem_append_right _ (List.mem_append_left _ (List.mem_of_getElem? (i := 160) rfl))
set_option maxRecDepth 100000 in
theorem dl_wsX8_corners_r1 : ∀ w ∈ wsX8_corners_r1, w ∈ lw_tbl := (List.forall_mem_cons.mpr ⟨tw_296, (List.forall_mem_cons.mpr ⟨tw_291, (List.forall_mem_cons.mpr ⟨tw_163, (List.forall_mem_cons.mpr ⟨tw_231, (List.forall_mem_cons.mpr ⟨tw_233, (List.forall_mem_cons.mpr ⟨tw_385, (List.forall_mem_cons.mpr ⟨tw_386, (List.forall_mem_cons.mpr ⟨tw_387, (List.forall_mem_cons.mpr ⟨tw_80, (List.forall_mem_cons.mpr ⟨tw_388, (List.forall_mem_cons.mpr ⟨tw_226, (List.forall_mem_cons.mpr ⟨tw_225, (List.forall_mem_cons.mpr ⟨tw_232, (List.forall_mem_cons.mpr ⟨tw_230, (List.forall_mem_cons.mpr ⟨tw_389, (List.forall_mem_cons.mpr ⟨tw_390, (List.forall_mem_cons.mpr ⟨tw_391, (List.forall_mem_cons.mpr ⟨tw_76, (List.forall_mem_cons.mpr ⟨tw_392, (List.forall_mem_cons.mpr ⟨tw_126, (List.forall_mem_cons.mpr ⟨tw_393, (List.forall_mem_cons.mpr ⟨tw_353, (List.forall_mem_cons.mpr ⟨tw_354, (List.forall_mem_cons.mpr ⟨tw_355, (fun _ h => absurd h List.not_mem_nil)⟩)⟩)⟩)⟩)⟩)⟩)⟩)⟩)⟩)⟩)⟩)⟩)⟩)⟩)⟩)⟩)⟩)⟩)⟩)⟩)⟩)⟩)⟩)⟩)
set_option maxRecDepth 100000 in
theorem dl_wsX8_corners_r2 : ∀ w ∈ wsX8_corners_r2, w ∈ lw_tbl := (List.forall_mem_cons.mpr ⟨tw_351, (List.forall_mem_cons.mpr ⟨tw_327, (List.forall_mem_cons.mpr ⟨tw_328, (List.forall_mem_cons.mpr ⟨tw_329, (List.forall_mem_cons.mpr ⟨tw_131, (List.forall_mem_cons.mpr ⟨tw_394, (List.forall_mem_cons.mpr ⟨tw_341, (List.forall_mem_cons.mpr ⟨tw_342, (List.forall_mem_cons.mpr ⟨tw_343, (List.forall_mem_cons.mpr ⟨tw_344, (List.forall_mem_cons.mpr ⟨tw_346, (List.forall_mem_cons.mpr ⟨tw_345, (List.forall_mem_cons.mpr ⟨tw_84, (List.forall_mem_cons.mpr ⟨tw_395, (List.forall_mem_cons.mpr ⟨tw_396, (List.forall_mem_cons.mpr ⟨tw_397, (List.forall_mem_cons.mpr ⟨tw_398, (List.forall_mem_cons.mpr ⟨tw_399, (List.forall_mem_cons.mpr ⟨tw_400, (List.forall_mem_cons.mpr ⟨tw_401, (List.forall_mem_cons.mpr ⟨tw_402, (List.forall_mem_cons.mpr ⟨tw_403, (List.forall_mem_cons.mpr ⟨tw_405, (List.forall_mem_cons.mpr ⟨tw_2, (fun _ h => absurd h List.not_mem_nil)⟩)⟩)⟩)⟩)⟩)⟩)⟩)⟩)⟩)⟩)⟩)⟩)⟩)⟩)⟩)⟩)⟩)⟩)⟩)⟩)⟩)⟩)⟩)⟩)
set_option maxRecDepth 100000 in
theorem dl_wsX8_corners_r3 : ∀ w ∈ wsX8_corners_r3, w ∈ lw_tbl := (List.forall_mem_cons.mpr ⟨tw_406, (List.forall_mem_cons.mpr ⟨tw_128, (List.forall_mem_cons.mpr ⟨tw_407, (List.forall_mem_cons.mpr ⟨tw_409, (List.forall_mem_cons.mpr ⟨tw_3, (List.forall_mem_cons.mpr ⟨tw_410, (List.forall_mem_cons.mpr ⟨tw_227, (List.forall_mem_cons.mpr ⟨tw_411, (List.forall_mem_cons.mpr ⟨tw_412, (List.forall_mem_cons.mpr ⟨tw_414, (List.forall_mem_cons.mpr ⟨tw_4, (List.forall_mem_cons.mpr ⟨tw_415, (List.forall_mem_cons.mpr ⟨tw_228, (List.forall_mem_cons.mpr ⟨tw_416, (List.forall_mem_cons.mpr ⟨tw_418, (List.forall_mem_cons.mpr ⟨tw_5, (List.forall_mem_cons.mpr ⟨tw_419, (List.forall_mem_cons.mpr ⟨tw_420, (List.forall_mem_cons.mpr ⟨tw_422, (List.forall_mem_cons.mpr ⟨tw_6, (List.forall_mem_cons.mpr ⟨tw_423, (List.forall_mem_cons.mpr ⟨tw_424, (List.forall_mem_cons.mpr ⟨tw_373, (List.forall_mem_cons.mpr ⟨tw_85, (fun _ h => absurd h List.not_mem_nil)⟩)⟩)⟩)⟩)⟩)⟩)⟩)⟩)⟩)⟩)⟩)⟩)⟩)⟩)⟩)⟩)⟩)⟩)⟩)⟩)⟩)⟩)⟩)⟩)
set_option maxRecDepth 100000 in
theorem dl_wsX8_corners_r4 : ∀ w ∈ wsX8_corners_r4, w ∈ lw_tbl := (List.forall_mem_cons.mpr ⟨tw_374, (List.forall_mem_cons.mpr ⟨tw_130, (List.forall_mem_cons.mpr ⟨tw_376, (List.forall_mem_cons.mpr ⟨tw_115, (List.forall_mem_cons.mpr ⟨tw_77, (List.forall_mem_cons.mpr ⟨tw_116, (List.forall_mem_cons.mpr ⟨tw_375, (List.forall_mem_cons.mpr ⟨tw_425, (List.forall_mem_cons.mpr ⟨tw_427, (List.forall_mem_cons.mpr ⟨tw_7, (List.forall_mem_cons.mpr ⟨tw_428, (List.forall_mem_cons.mpr ⟨tw_429, (List.forall_mem_cons.mpr ⟨tw_431, (List.forall_mem_cons.mpr ⟨tw_8, (List.forall_mem_cons.mpr ⟨tw_432, (List.forall_mem_cons.mpr ⟨tw_433, (List.forall_mem_cons.mpr ⟨tw_435, (List.forall_mem_cons.mpr ⟨tw_9, (List.forall_mem_cons.mpr ⟨tw_436, (List.forall_mem_cons.mpr ⟨tw_437, (List.forall_mem_cons.mpr ⟨tw_438, (List.forall_mem_cons.mpr ⟨tw_439, (List.forall_mem_cons.mpr ⟨tw_440, (List.forall_mem_cons.mpr ⟨tw_442, (fun _ h => absurd h List.not_mem_nil)⟩)⟩)⟩)⟩)⟩)⟩)⟩)⟩)⟩)⟩)⟩)⟩)⟩)⟩)⟩)⟩)⟩)⟩)⟩)⟩)⟩)⟩)⟩)⟩)
set_option maxRecDepth 100000 in
theorem dl_wsX8_corners_r5 : ∀ w ∈ wsX8_corners_r5, w ∈ lw_tbl := (List.forall_mem_cons.mpr ⟨tw_10, (List.forall_mem_cons.mpr ⟨tw_443, (List.forall_mem_cons.mpr ⟨tw_229, (List.forall_mem_cons.mpr ⟨tw_444, (List.forall_mem_cons.mpr ⟨tw_445, (List.forall_mem_cons.mpr ⟨tw_446, (List.forall_mem_cons.mpr ⟨tw_447, (List.forall_mem_cons.mpr ⟨tw_453, (List.forall_mem_cons.mpr ⟨tw_448, (List.forall_mem_cons.mpr ⟨tw_449, (List.forall_mem_cons.mpr ⟨tw_450, (List.forall_mem_cons.mpr ⟨tw_451, (List.forall_mem_cons.mpr ⟨tw_452, (List.forall_mem_cons.mpr ⟨tw_361, (List.forall_mem_cons.mpr ⟨tw_362, (List.forall_mem_cons.mpr ⟨tw_363, (List.forall_mem_cons.mpr ⟨tw_454, (List.forall_mem_cons.mpr ⟨tw_455, (List.forall_mem_cons.mpr ⟨tw_456, (fun _ h => absurd h List.not_mem_nil)⟩)⟩)⟩)⟩)⟩)⟩)⟩)⟩)⟩)⟩)⟩)⟩)⟩)⟩)⟩)⟩)⟩)⟩)⟩)
set_option maxRecDepth 100000 in
theorem dl_wsX8_corners : ∀ w ∈ wsX8_corners, w ∈ lw_tbl := (List.forall_mem_cons.mpr ⟨tw_661, (List.forall_mem_append.mpr ⟨(List.forall_mem_append.mpr ⟨(List.forall_mem_append.mpr ⟨(List.forall_mem_append.mpr ⟨(List.forall_mem_append.mpr ⟨dl_wsX8_corners_r1, (List.forall_mem_append.mpr ⟨dl_wsX8_corners_r2, (List.forall_mem_append.mpr ⟨dl_wsX8_corners_r3, (List.forall_mem_append.mpr ⟨dl_wsX8_corners_r4, dl_wsX8_corners_r5⟩)⟩)⟩)⟩), fu_wsX80⟩), fu_wsX20⟩), fu_wsX00⟩), fu_wsX40⟩)⟩)
set_option maxRecDepth 100000 in
theorem tw_660 : Cond.selects RX8 yX8_corners yX8_corners ∈ lw_tbl := List.mem_append_right _ (List.mem_append_right _ (List.mem_append_right _ (List.mem_append_left _ (List.mem_of_getElem? (i := 107) rfl))))
set_option maxRecDepth 100000 in
theorem tw_659 : Cond.instanceMethod yX8_corners ∈ lw_tbl := List.mem_append_right _ (List.mem_append_right _ (List.mem_append_right _ (List.mem_append_left _ (List.mem_of_getElem? (i := 106) rfl))))
set_option maxRecDepth 100000 in
theorem tw_658 : Cond.methodLink RL 69 yX8_corners ∈ lw_tbl := List.mem_append_right _ (List.mem_append_right _ (List.mem_append_right _ (List.mem_append_left _ (List.mem_of_getElem? (i := 105) rfl))))
set_option maxRecDepth 100000 in
theorem tw_1193 : Cond.code yX9_corners cX9_corners 1 (some .int) ∈ lw_tbl := List.mem_append_right _ (List.mem_append_right _ (List.mem_append_right _ (List.mem_append_right _ (List.mem_append_right _ (List.mem_append_left _ (List.mem_of_getElem? (i := 160) rfl))))))
set_option maxRecDepth 100000 in
theorem tw_1197 : Cond.code yX9_isTable cX9_isTable 2 (some .boolean) ∈ lw_tbl := List.mem_append_right _ (List.mem_append_right _ (List.mem_append_right _ (List.mem_append_right _ (List.mem_append_right _ (List.mem_append_left _ (List.mem_of_getElem? (i := 164) rfl))))))
set_option maxRecDepth 100000 in
theorem tw_57 : Cond.selects RX9 yX9_isTable yX9_isTable ∈ lw_tbl := List.mem_append_left _ (List.mem_of_getElem? (i := 57) rfl)
set_option maxRecDepth 100000 in
theorem tw_1196 : Cond.instanceMethod yX9_isTable ∈ lw_tbl := List.mem_append_right _ (List.mem_append_right _ (List.mem_append_right _ (List.mem_append_right _ (List.mem_append_right _ (List.mem_append_left _ (List.mem_of_getElem? (i := 163) rfl))))))
set_option maxRecDepth 100000 in
theorem tw_1194 : Cond.methodLink RX9 209 yX9_isTable ∈ lw_tbl := List.mem_append_right _ (List.mem_append_right _ (List.mem_append_right _ (List.mem_append_right _ (List.mem_append_right _ (List.mem_append_left _ (List.mem_of_getElem? (i := 161) rfl))))))
set_option maxRecDepth 100000 in
theorem dl_wsX9_corners_r1 : ∀ w ∈ wsX9_corners_r1, w ∈ lw_tbl := (List.forall_mem_cons.mpr ⟨tw_930, (List.forall_mem_cons.mpr ⟨tw_1194, (List.forall_mem_cons.mpr ⟨tw_1196, (List.forall_mem_cons.mpr ⟨tw_57, (List.forall_mem_cons.mpr ⟨tw_83, (List.forall_mem_cons.mpr ⟨tw_1197, (List.forall_mem_cons.mpr ⟨tw_1057, (List.forall_mem_cons.mpr ⟨tw_1059, (List.forall_mem_cons.mpr ⟨tw_30, (List.forall_mem_cons.mpr ⟨tw_1060, (List.forall_mem_cons.mpr ⟨tw_907, (List.forall_mem_cons.mpr ⟨tw_1036, (List.forall_mem_cons.mpr ⟨tw_1038, (List.forall_mem_cons.mpr ⟨tw_28, (List.forall_mem_cons.mpr ⟨tw_1039, (List.forall_mem_cons.mpr ⟨tw_908, (List.forall_mem_cons.mpr ⟨tw_1061, (List.forall_mem_cons.mpr ⟨tw_1063, (List.forall_mem_cons.mpr ⟨tw_31, (List.forall_mem_cons.mpr ⟨tw_1064, (List.forall_mem_cons.mpr ⟨tw_932, (List.forall_mem_cons.mpr ⟨tw_1065, (List.forall_mem_cons.mpr ⟨tw_1067, (List.forall_mem_cons.mpr ⟨tw_32, (fun _ h => absurd h List.not_mem_nil)⟩)⟩)⟩)⟩)⟩)⟩)⟩)⟩)⟩)⟩)⟩)⟩)⟩)⟩)⟩)⟩)⟩)⟩)⟩)⟩)⟩)⟩)⟩)⟩)
set_option maxRecDepth 100000 in
theorem dl_wsX9_corners_r2 : ∀ w ∈ wsX9_corners_r2, w ∈ lw_tbl := (List.forall_mem_cons.mpr ⟨tw_1068, (List.forall_mem_cons.mpr ⟨tw_1069, (List.forall_mem_cons.mpr ⟨tw_1071, (List.forall_mem_cons.mpr ⟨tw_33, (List.forall_mem_cons.mpr ⟨tw_1072, (List.forall_mem_cons.mpr ⟨tw_933, (List.forall_mem_cons.mpr ⟨tw_1073, (List.forall_mem_cons.mpr ⟨tw_1075, (List.forall_mem_cons.mpr ⟨tw_34, (List.forall_mem_cons.mpr ⟨tw_1076, (List.forall_mem_cons.mpr ⟨tw_1077, (List.forall_mem_cons.mpr ⟨tw_1079, (List.forall_mem_cons.mpr ⟨tw_35, (List.forall_mem_cons.mpr ⟨tw_1080, (List.forall_mem_cons.mpr ⟨tw_931, (List.forall_mem_cons.mpr ⟨tw_1081, (List.forall_mem_cons.mpr ⟨tw_1083, (List.forall_mem_cons.mpr ⟨tw_36, (List.forall_mem_cons.mpr ⟨tw_1084, (fun _ h => absurd h List.not_mem_nil)⟩)⟩)⟩)⟩)⟩)⟩)⟩)⟩)⟩)⟩)⟩)⟩)⟩)⟩)⟩)⟩)⟩)⟩)⟩)
set_option maxRecDepth 100000 in
theorem dl_wsX9_corners : ∀ w ∈ wsX9_corners, w ∈ lw_tbl := (List.forall_mem_cons.mpr ⟨tw_1193, (List.forall_mem_append.mpr ⟨(List.forall_mem_append.mpr ⟨dl_wsX9_corners_r1, dl_wsX9_corners_r2⟩), fu_wsX90⟩)⟩)
set_option maxRecDepth 100000 in
theorem tw_1192 : Cond.selects RX9 yX9_corners yX9_corners ∈ lw_tbl := List.mem_append_right _ (List.mem_append_right _ (List.mem_append_right _ (List.mem_append_right _ (List.mem_append_right _ (List.mem_append_left _ (List.mem_of_getElem? (i := 159) rfl))))))
set_option maxRecDepth 100000 in
theorem tw_1191 : Cond.instanceMethod yX9_corners ∈ lw_tbl := List.mem_append_right _ (List.mem_append_right _ (List.mem_append_right _ (List.mem_append_right _ (List.mem_append_right _ (List.mem_append_left _ (List.mem_of_getElem? (i := 158) rfl))))))
set_option maxRecDepth 100000 in
theorem tw_1190 : Cond.methodLink RL 72 yX9_corners ∈ lw_tbl := List.mem_append_right _ (List.mem_append_right _ (List.mem_append_right _ (List.mem_append_right _ (List.mem_append_right _ (List.mem_append_left _ (List.mem_of_getElem? (i := 157) rfl))))))
set_option maxRecDepth 100000 in
theorem tw_665 : Cond.code yX8_at cX8_at 4 (some .int) ∈ lw_tbl := List.mem_append_right _ (List.mem_append_right _ (List.mem_append_right _ (List.mem_append_left _ (List.mem_of_getElem? (i := 112) rfl))))
set_option maxRecDepth 100000 in
theorem dl_wsX8_at_r1 : ∀ w ∈ wsX8_at_r1, w ∈ lw_tbl := (List.forall_mem_cons.mpr ⟨tw_291, (List.forall_mem_cons.mpr ⟨tw_163, (List.forall_mem_cons.mpr ⟨tw_296, (List.forall_mem_cons.mpr ⟨tw_381, (List.forall_mem_cons.mpr ⟨tw_383, (List.forall_mem_cons.mpr ⟨tw_1, (List.forall_mem_cons.mpr ⟨tw_74, (List.forall_mem_cons.mpr ⟨tw_384, (List.forall_mem_cons.mpr ⟨tw_231, (List.forall_mem_cons.mpr ⟨tw_385, (List.forall_mem_cons.mpr ⟨tw_386, (List.forall_mem_cons.mpr ⟨tw_387, (List.forall_mem_cons.mpr ⟨tw_80, (List.forall_mem_cons.mpr ⟨tw_388, (List.forall_mem_cons.mpr ⟨tw_226, (List.forall_mem_cons.mpr ⟨tw_225, (List.forall_mem_cons.mpr ⟨tw_232, (List.forall_mem_cons.mpr ⟨tw_230, (List.forall_mem_cons.mpr ⟨tw_389, (List.forall_mem_cons.mpr ⟨tw_390, (List.forall_mem_cons.mpr ⟨tw_391, (List.forall_mem_cons.mpr ⟨tw_76, (List.forall_mem_cons.mpr ⟨tw_392, (List.forall_mem_cons.mpr ⟨tw_126, (fun _ h => absurd h List.not_mem_nil)⟩)⟩)⟩)⟩)⟩)⟩)⟩)⟩)⟩)⟩)⟩)⟩)⟩)⟩)⟩)⟩)⟩)⟩)⟩)⟩)⟩)⟩)⟩)⟩)
set_option maxRecDepth 100000 in
theorem dl_wsX8_at_r2 : ∀ w ∈ wsX8_at_r2, w ∈ lw_tbl := (List.forall_mem_cons.mpr ⟨tw_393, (List.forall_mem_cons.mpr ⟨tw_353, (List.forall_mem_cons.mpr ⟨tw_354, (List.forall_mem_cons.mpr ⟨tw_355, (List.forall_mem_cons.mpr ⟨tw_351, (List.forall_mem_cons.mpr ⟨tw_327, (List.forall_mem_cons.mpr ⟨tw_328, (List.forall_mem_cons.mpr ⟨tw_329, (List.forall_mem_cons.mpr ⟨tw_131, (List.forall_mem_cons.mpr ⟨tw_394, (List.forall_mem_cons.mpr ⟨tw_341, (List.forall_mem_cons.mpr ⟨tw_342, (List.forall_mem_cons.mpr ⟨tw_343, (List.forall_mem_cons.mpr ⟨tw_344, (List.forall_mem_cons.mpr ⟨tw_346, (List.forall_mem_cons.mpr ⟨tw_345, (List.forall_mem_cons.mpr ⟨tw_84, (List.forall_mem_cons.mpr ⟨tw_395, (List.forall_mem_cons.mpr ⟨tw_396, (List.forall_mem_cons.mpr ⟨tw_397, (List.forall_mem_cons.mpr ⟨tw_398, (List.forall_mem_cons.mpr ⟨tw_399, (List.forall_mem_cons.mpr ⟨tw_400, (List.forall_mem_cons.mpr ⟨tw_401, (fun _ h => absurd h List.not_mem_nil)⟩)⟩)⟩)⟩)⟩)⟩)⟩)⟩)⟩)⟩)⟩)⟩)⟩)⟩)⟩)⟩)⟩)⟩)⟩)⟩)⟩)⟩)⟩)⟩)
set_option maxRecDepth 100000 in
theorem dl_wsX8_at_r3 : ∀ w ∈ wsX8_at_r3, w ∈ lw_tbl := (List.forall_mem_cons.mpr ⟨tw_402, (List.forall_mem_cons.mpr ⟨tw_403, (List.forall_mem_cons.mpr ⟨tw_405, (List.forall_mem_cons.mpr ⟨tw_2, (List.forall_mem_cons.mpr ⟨tw_406, (List.forall_mem_cons.mpr ⟨tw_128, (List.forall_mem_cons.mpr ⟨tw_407, (List.forall_mem_cons.mpr ⟨tw_409, (List.forall_mem_cons.mpr ⟨tw_3, (List.forall_mem_cons.mpr ⟨tw_410, (List.forall_mem_cons.mpr ⟨tw_227, (List.forall_mem_cons.mpr ⟨tw_411, (List.forall_mem_cons.mpr ⟨tw_412, (List.forall_mem_cons.mpr ⟨tw_414, (List.forall_mem_cons.mpr ⟨tw_4, (List.forall_mem_cons.mpr ⟨tw_415, (List.forall_mem_cons.mpr ⟨tw_228, (List.forall_mem_cons.mpr ⟨tw_416, (List.forall_mem_cons.mpr ⟨tw_418, (List.forall_mem_cons.mpr ⟨tw_5, (List.forall_mem_cons.mpr ⟨tw_419, (List.forall_mem_cons.mpr ⟨tw_420, (List.forall_mem_cons.mpr ⟨tw_422, (List.forall_mem_cons.mpr ⟨tw_6, (fun _ h => absurd h List.not_mem_nil)⟩)⟩)⟩)⟩)⟩)⟩)⟩)⟩)⟩)⟩)⟩)⟩)⟩)⟩)⟩)⟩)⟩)⟩)⟩)⟩)⟩)⟩)⟩)⟩)
set_option maxRecDepth 100000 in
theorem dl_wsX8_at_r4 : ∀ w ∈ wsX8_at_r4, w ∈ lw_tbl := (List.forall_mem_cons.mpr ⟨tw_423, (List.forall_mem_cons.mpr ⟨tw_424, (List.forall_mem_cons.mpr ⟨tw_373, (List.forall_mem_cons.mpr ⟨tw_85, (List.forall_mem_cons.mpr ⟨tw_374, (List.forall_mem_cons.mpr ⟨tw_130, (List.forall_mem_cons.mpr ⟨tw_376, (List.forall_mem_cons.mpr ⟨tw_115, (List.forall_mem_cons.mpr ⟨tw_77, (List.forall_mem_cons.mpr ⟨tw_116, (List.forall_mem_cons.mpr ⟨tw_375, (List.forall_mem_cons.mpr ⟨tw_425, (List.forall_mem_cons.mpr ⟨tw_427, (List.forall_mem_cons.mpr ⟨tw_7, (List.forall_mem_cons.mpr ⟨tw_428, (List.forall_mem_cons.mpr ⟨tw_429, (List.forall_mem_cons.mpr ⟨tw_431, (List.forall_mem_cons.mpr ⟨tw_8, (List.forall_mem_cons.mpr ⟨tw_432, (List.forall_mem_cons.mpr ⟨tw_433, (List.forall_mem_cons.mpr ⟨tw_435, (List.forall_mem_cons.mpr ⟨tw_9, (List.forall_mem_cons.mpr ⟨tw_436, (List.forall_mem_cons.mpr ⟨tw_437, (fun _ h => absurd h List.not_mem_nil)⟩)⟩)⟩)⟩)⟩)⟩)⟩)⟩)⟩)⟩)⟩)⟩)⟩)⟩)⟩)⟩)⟩)⟩)⟩)⟩)⟩)⟩)⟩)⟩)
set_option maxRecDepth 100000 in
theorem dl_wsX8_at_r5 : ∀ w ∈ wsX8_at_r5, w ∈ lw_tbl := (List.forall_mem_cons.mpr ⟨tw_438, (List.forall_mem_cons.mpr ⟨tw_439, (List.forall_mem_cons.mpr ⟨tw_440, (List.forall_mem_cons.mpr ⟨tw_442, (List.forall_mem_cons.mpr ⟨tw_10, (List.forall_mem_cons.mpr ⟨tw_443, (List.forall_mem_cons.mpr ⟨tw_229, (List.forall_mem_cons.mpr ⟨tw_444, (List.forall_mem_cons.mpr ⟨tw_445, (List.forall_mem_cons.mpr ⟨tw_446, (List.forall_mem_cons.mpr ⟨tw_447, (List.forall_mem_cons.mpr ⟨tw_453, (List.forall_mem_cons.mpr ⟨tw_448, (List.forall_mem_cons.mpr ⟨tw_449, (List.forall_mem_cons.mpr ⟨tw_450, (List.forall_mem_cons.mpr ⟨tw_451, (List.forall_mem_cons.mpr ⟨tw_452, (List.forall_mem_cons.mpr ⟨tw_361, (List.forall_mem_cons.mpr ⟨tw_362, (List.forall_mem_cons.mpr ⟨tw_363, (List.forall_mem_cons.mpr ⟨tw_454, (List.forall_mem_cons.mpr ⟨tw_455, (List.forall_mem_cons.mpr ⟨tw_456, (List.forall_mem_cons.mpr ⟨tw_457, (fun _ h => absurd h List.not_mem_nil)⟩)⟩)⟩)⟩)⟩)⟩)⟩)⟩)⟩)⟩)⟩)⟩)⟩)⟩)⟩)⟩)⟩)⟩)⟩)⟩)⟩)⟩)⟩)⟩)
set_option maxRecDepth 100000 in
theorem tw_666 : Cond.methodLink RX8 193 yX0_number ∈ lw_tbl := List.mem_append_right _ (List.mem_append_right _ (List.mem_append_right _ (List.mem_append_left _ (List.mem_of_getElem? (i := 113) rfl))))
set_option maxRecDepth 100000 in
theorem dl_wsX8_at_r6 : ∀ w ∈ wsX8_at_r6, w ∈ lw_tbl := (List.forall_mem_cons.mpr ⟨tw_360, (List.forall_mem_cons.mpr ⟨tw_666, (fun _ h => absurd h List.not_mem_nil)⟩)⟩)
set_option maxRecDepth 100000 in
theorem dl_wsX8_at : ∀ w ∈ wsX8_at, w ∈ lw_tbl := (List.forall_mem_cons.mpr ⟨tw_665, (List.forall_mem_append.mpr ⟨(List.forall_mem_append.mpr ⟨(List.forall_mem_append.mpr ⟨(List.forall_mem_append.mpr ⟨(List.forall_mem_append.mpr ⟨dl_wsX8_at_r1, (List.forall_mem_append.mpr ⟨dl_wsX8_at_r2, (List.forall_mem_append.mpr ⟨dl_wsX8_at_r3, (List.forall_mem_append.mpr ⟨dl_wsX8_at_r4, (List.forall_mem_append.mpr ⟨dl_wsX8_at_r5, dl_wsX8_at_r6⟩)⟩)⟩)⟩)⟩), fu_wsX80⟩), fu_wsX20⟩), fu_wsX00⟩), fu_wsX40⟩)⟩)
set_option maxRecDepth 100000 in
theorem tw_664 : Cond.selects RX8 yX8_at yX8_at ∈ lw_tbl := List.mem_append_right _ (List.mem_append_right _ (List.mem_append_right _ (List.mem_append_left _ (List.mem_of_getElem? (i := 111) rfl))))
set_option maxRecDepth 100000 in
theorem tw_663 : Cond.instanceMethod yX8_at ∈ lw_tbl := List.mem_append_right _ (List.mem_append_right _ (List.mem_append_right _ (List.mem_append_left _ (List.mem_of_getElem? (i := 110) rfl))))
set_option maxRecDepth 100000 in
theorem tw_662 : Cond.methodLink RL 73 yX8_at ∈ lw_tbl := List.mem_append_right _ (List.mem_append_right _ (List.mem_append_right _ (List.mem_append_left _ (List.mem_of_getElem? (i := 109) rfl))))
set_option maxRecDepth 100000 in
theorem tw_1201 : Cond.code yX9_at cX9_at 3 (some .int) ∈ lw_tbl := List.mem_append_right _ (List.mem_append_right _ (List.mem_append_right _ (List.mem_append_right _ (List.mem_append_right _ (List.mem_append_left _ (List.mem_of_getElem? (i := 168) rfl))))))
set_option maxRecDepth 100000 in
theorem dl_wsX9_at_r1 : ∀ w ∈ wsX9_at_r1, w ∈ lw_tbl := (List.forall_mem_cons.mpr ⟨tw_931, (List.forall_mem_cons.mpr ⟨tw_1194, (List.forall_mem_cons.mpr ⟨tw_1196, (List.forall_mem_cons.mpr ⟨tw_57, (List.forall_mem_cons.mpr ⟨tw_83, (List.forall_mem_cons.mpr ⟨tw_1197, (List.forall_mem_cons.mpr ⟨tw_1057, (List.forall_mem_cons.mpr ⟨tw_1059, (List.forall_mem_cons.mpr ⟨tw_30, (List.forall_mem_cons.mpr ⟨tw_1060, (List.forall_mem_cons.mpr ⟨tw_907, (List.forall_mem_cons.mpr ⟨tw_1036, (List.forall_mem_cons.mpr ⟨tw_1038, (List.forall_mem_cons.mpr ⟨tw_28, (List.forall_mem_cons.mpr ⟨tw_1039, (List.forall_mem_cons.mpr ⟨tw_908, (List.forall_mem_cons.mpr ⟨tw_1061, (List.forall_mem_cons.mpr ⟨tw_1063, (List.forall_mem_cons.mpr ⟨tw_31, (List.forall_mem_cons.mpr ⟨tw_1064, (List.forall_mem_cons.mpr ⟨tw_930, (List.forall_mem_cons.mpr ⟨tw_932, (List.forall_mem_cons.mpr ⟨tw_1065, (List.forall_mem_cons.mpr ⟨tw_1067, (fun _ h => absurd h List.not_mem_nil)⟩)⟩)⟩)⟩)⟩)⟩)⟩)⟩)⟩)⟩)⟩)⟩)⟩)⟩)⟩)⟩)⟩)⟩)⟩)⟩)⟩)⟩)⟩)⟩)
set_option maxRecDepth 100000 in
theorem tw_1205 : Cond.code yX9_isCorner cX9_isCorner 2 (some .boolean) ∈ lw_tbl := List.mem_append_right _ (List.mem_append_right _ (List.mem_append_right _ (List.mem_append_right _ (List.mem_append_right _ (List.mem_append_left _ (List.mem_of_getElem? (i := 172) rfl))))))
set_option maxRecDepth 100000 in
theorem tw_58 : Cond.selects RX9 yX9_isCorner yX9_isCorner ∈ lw_tbl := List.mem_append_left _ (List.mem_of_getElem? (i := 58) rfl)
set_option maxRecDepth 100000 in
theorem tw_1204 : Cond.instanceMethod yX9_isCorner ∈ lw_tbl := List.mem_append_right _ (List.mem_append_right _ (List.mem_append_right _ (List.mem_append_right _ (List.mem_append_right _ (List.mem_append_left _ (List.mem_of_getElem? (i := 171) rfl))))))
set_option maxRecDepth 100000 in
theorem tw_1202 : Cond.methodLink RX9 212 yX9_isCorner ∈ lw_tbl := List.mem_append_right _ (List.mem_append_right _ (List.mem_append_right _ (List.mem_append_right _ (List.mem_append_right _ (List.mem_append_left _ (List.mem_of_getElem? (i := 169) rfl))))))
set_option maxRecDepth 100000 in
theorem dl_wsX9_at_r2 : ∀ w ∈ wsX9_at_r2, w ∈ lw_tbl := (List.forall_mem_cons.mpr ⟨tw_32, (List.forall_mem_cons.mpr ⟨tw_1068, (List.forall_mem_cons.mpr ⟨tw_1069, (List.forall_mem_cons.mpr ⟨tw_1071, (List.forall_mem_cons.mpr ⟨tw_33, (List.forall_mem_cons.mpr ⟨tw_1072, (List.forall_mem_cons.mpr ⟨tw_933, (List.forall_mem_cons.mpr ⟨tw_1073, (List.forall_mem_cons.mpr ⟨tw_1075, (List.forall_mem_cons.mpr ⟨tw_34, (List.forall_mem_cons.mpr ⟨tw_1076, (List.forall_mem_cons.mpr ⟨tw_1077, (List.forall_mem_cons.mpr ⟨tw_1079, (List.forall_mem_cons.mpr ⟨tw_35, (List.forall_mem_cons.mpr ⟨tw_1080, (List.forall_mem_cons.mpr ⟨tw_1081, (List.forall_mem_cons.mpr ⟨tw_1083, (List.forall_mem_cons.mpr ⟨tw_36, (List.forall_mem_cons.mpr ⟨tw_1084, (List.forall_mem_cons.mpr ⟨tw_1202, (List.forall_mem_cons.mpr ⟨tw_1204, (List.forall_mem_cons.mpr ⟨tw_58, (List.forall_mem_cons.mpr ⟨tw_1205, (List.forall_mem_cons.mpr ⟨tw_1017, (fun _ h => absurd h List.not_mem_nil)⟩)⟩)⟩)⟩)⟩)⟩)⟩)⟩)⟩)⟩)⟩)⟩)⟩)⟩)⟩)⟩)⟩)⟩)⟩)⟩)⟩)⟩)⟩)⟩)
set_option maxRecDepth 100000 in
theorem dl_wsX9_at_r3 : ∀ w ∈ wsX9_at_r3, w ∈ lw_tbl := (List.forall_mem_cons.mpr ⟨tw_1018, (List.forall_mem_cons.mpr ⟨tw_1019, (List.forall_mem_cons.mpr ⟨tw_1032, (List.forall_mem_cons.mpr ⟨tw_1034, (List.forall_mem_cons.mpr ⟨tw_27, (List.forall_mem_cons.mpr ⟨tw_1035, (fun _ h => absurd h List.not_mem_nil)⟩)⟩)⟩)⟩)⟩)⟩)
set_option maxRecDepth 100000 in
theorem dl_wsX9_at : ∀ w ∈ wsX9_at, w ∈ lw_tbl := (List.forall_mem_cons.mpr ⟨tw_1201, (List.forall_mem_append.mpr ⟨(List.forall_mem_append.mpr ⟨dl_wsX9_at_r1, (List.forall_mem_append.mpr ⟨dl_wsX9_at_r2, dl_wsX9_at_r3⟩)⟩), fu_wsX90⟩)⟩)
set_option maxRecDepth 100000 in
theorem tw_1200 : Cond.selects RX9 yX9_at yX9_at ∈ lw_tbl := List.mem_append_right _ (List.mem_append_right _ (List.mem_append_right _ (List.mem_append_right _ (List.mem_append_right _ (List.mem_append_left _ (List.mem_of_getElem? (i := 167) rfl))))))
set_option maxRecDepth 100000 in
theorem tw_1199 : Cond.instanceMethod yX9_at ∈ lw_tbl := List.mem_append_right _ (List.mem_append_right _ (List.mem_append_right _ (List.mem_append_right _ (List.mem_append_right _ (List.mem_append_left _ (List.mem_of_getElem? (i := 166) rfl))))))
set_option maxRecDepth 100000 in
theorem tw_1198 : Cond.methodLink RL 76 yX9_at ∈ lw_tbl := List.mem_append_right _ (List.mem_append_right _ (List.mem_append_right _ (List.mem_append_right _ (List.mem_append_right _ (List.mem_append_left _ (List.mem_of_getElem? (i := 165) rfl))))))
set_option maxRecDepth 100000 in
theorem tw_670 : Cond.code yX8_corner cX8_corner 4 (some .int) ∈ lw_tbl := List.mem_append_right _ (List.mem_append_right _ (List.mem_append_right _ (List.mem_append_left _ (List.mem_of_getElem? (i := 117) rfl))))
set_option maxRecDepth 100000 in
theorem dl_wsX8_corner_r1 : ∀ w ∈ wsX8_corner_r1, w ∈ lw_tbl := (List.forall_mem_cons.mpr ⟨tw_296, (List.forall_mem_cons.mpr ⟨tw_381, (List.forall_mem_cons.mpr ⟨tw_383, (List.forall_mem_cons.mpr ⟨tw_1, (List.forall_mem_cons.mpr ⟨tw_74, (List.forall_mem_cons.mpr ⟨tw_384, (List.forall_mem_cons.mpr ⟨tw_291, (List.forall_mem_cons.mpr ⟨tw_163, (List.forall_mem_cons.mpr ⟨tw_231, (List.forall_mem_cons.mpr ⟨tw_385, (List.forall_mem_cons.mpr ⟨tw_386, (List.forall_mem_cons.mpr ⟨tw_387, (List.forall_mem_cons.mpr ⟨tw_80, (List.forall_mem_cons.mpr ⟨tw_388, (List.forall_mem_cons.mpr ⟨tw_226, (List.forall_mem_cons.mpr ⟨tw_225, (List.forall_mem_cons.mpr ⟨tw_232, (List.forall_mem_cons.mpr ⟨tw_230, (List.forall_mem_cons.mpr ⟨tw_389, (List.forall_mem_cons.mpr ⟨tw_390, (List.forall_mem_cons.mpr ⟨tw_391, (List.forall_mem_cons.mpr ⟨tw_76, (List.forall_mem_cons.mpr ⟨tw_392, (List.forall_mem_cons.mpr ⟨tw_126, (fun _ h => absurd h List.not_mem_nil)⟩)⟩)⟩)⟩)⟩)⟩)⟩)⟩)⟩)⟩)⟩)⟩)⟩)⟩)⟩)⟩)⟩)⟩)⟩)⟩)⟩)⟩)⟩)⟩)
set_option maxRecDepth 100000 in
theorem dl_wsX8_corner_r2 : ∀ w ∈ wsX8_corner_r2, w ∈ lw_tbl := (List.forall_mem_cons.mpr ⟨tw_393, (List.forall_mem_cons.mpr ⟨tw_353, (List.forall_mem_cons.mpr ⟨tw_354, (List.forall_mem_cons.mpr ⟨tw_355, (List.forall_mem_cons.mpr ⟨tw_351, (List.forall_mem_cons.mpr ⟨tw_327, (List.forall_mem_cons.mpr ⟨tw_328, (List.forall_mem_cons.mpr ⟨tw_329, (List.forall_mem_cons.mpr ⟨tw_131, (List.forall_mem_cons.mpr ⟨tw_394, (List.forall_mem_cons.mpr ⟨tw_341, (List.forall_mem_cons.mpr ⟨tw_342, (List.forall_mem_cons.mpr ⟨tw_343, (List.forall_mem_cons.mpr ⟨tw_344, (List.forall_mem_cons.mpr ⟨tw_346, (List.forall_mem_cons.mpr ⟨tw_345, (List.forall_mem_cons.mpr ⟨tw_84, (List.forall_mem_cons.mpr ⟨tw_395, (List.forall_mem_cons.mpr ⟨tw_396, (List.forall_mem_cons.mpr ⟨tw_397, (List.forall_mem_cons.mpr ⟨tw_398, (List.forall_mem_cons.mpr ⟨tw_399, (List.forall_mem_cons.mpr ⟨tw_400, (List.forall_mem_cons.mpr ⟨tw_401, (fun _ h => absurd h List.not_mem_nil)⟩)⟩)⟩)⟩)⟩)⟩)⟩)⟩)⟩)⟩)⟩)⟩)⟩)⟩)⟩)⟩)⟩)⟩)⟩)⟩)⟩)⟩)⟩)⟩)
set_option maxRecDepth 100000 in
theorem dl_wsX8_corner_r3 : ∀ w ∈ wsX8_corner_r3, w ∈ lw_tbl := (List.forall_mem_cons.mpr ⟨tw_402, (List.forall_mem_cons.mpr ⟨tw_403, (List.forall_mem_cons.mpr ⟨tw_405, (List.forall_mem_cons.mpr ⟨tw_2, (List.forall_mem_cons.mpr ⟨tw_406, (List.forall_mem_cons.mpr ⟨tw_128, (List.forall_mem_cons.mpr ⟨tw_407, (List.forall_mem_cons.mpr ⟨tw_409, (List.forall_mem_cons.mpr ⟨tw_3, (List.forall_mem_cons.mpr ⟨tw_410, (List.forall_mem_cons.mpr ⟨tw_227, (List.forall_mem_cons.mpr ⟨tw_411, (List.forall_mem_cons.mpr ⟨tw_412, (List.forall_mem_cons.mpr ⟨tw_414, (List.forall_mem_cons.mpr ⟨tw_4, (List.forall_mem_cons.mpr ⟨tw_415, (List.forall_mem_cons.mpr ⟨tw_228, (List.forall_mem_cons.mpr ⟨tw_416, (List.forall_mem_cons.mpr ⟨tw_418, (List.forall_mem_cons.mpr ⟨tw_5, (List.forall_mem_cons.mpr ⟨tw_419, (List.forall_mem_cons.mpr ⟨tw_420, (List.forall_mem_cons.mpr ⟨tw_422, (List.forall_mem_cons.mpr ⟨tw_6, (fun _ h => absurd h List.not_mem_nil)⟩)⟩)⟩)⟩)⟩)⟩)⟩)⟩)⟩)⟩)⟩)⟩)⟩)⟩)⟩)⟩)⟩)⟩)⟩)⟩)⟩)⟩)⟩)⟩)
set_option maxRecDepth 100000 in
theorem dl_wsX8_corner_r4 : ∀ w ∈ wsX8_corner_r4, w ∈ lw_tbl := (List.forall_mem_cons.mpr ⟨tw_423, (List.forall_mem_cons.mpr ⟨tw_424, (List.forall_mem_cons.mpr ⟨tw_373, (List.forall_mem_cons.mpr ⟨tw_85, (List.forall_mem_cons.mpr ⟨tw_374, (List.forall_mem_cons.mpr ⟨tw_130, (List.forall_mem_cons.mpr ⟨tw_376, (List.forall_mem_cons.mpr ⟨tw_115, (List.forall_mem_cons.mpr ⟨tw_77, (List.forall_mem_cons.mpr ⟨tw_116, (List.forall_mem_cons.mpr ⟨tw_375, (List.forall_mem_cons.mpr ⟨tw_425, (List.forall_mem_cons.mpr ⟨tw_427, (List.forall_mem_cons.mpr ⟨tw_7, (List.forall_mem_cons.mpr ⟨tw_428, (List.forall_mem_cons.mpr ⟨tw_429, (List.forall_mem_cons.mpr ⟨tw_431, (List.forall_mem_cons.mpr ⟨tw_8, (List.forall_mem_cons.mpr ⟨tw_432, (List.forall_mem_cons.mpr ⟨tw_433, (List.forall_mem_cons.mpr ⟨tw_435, (List.forall_mem_cons.mpr ⟨tw_9, (List.forall_mem_cons.mpr ⟨tw_436, (List.forall_mem_cons.mpr ⟨tw_437, (fun _ h => absurd h List.not_mem_nil)⟩)⟩)⟩)⟩)⟩)⟩)⟩)⟩)⟩)⟩)⟩)⟩)⟩)⟩)⟩)⟩)⟩)⟩)⟩)⟩)⟩)⟩)⟩)⟩)
set_option maxRecDepth 100000 in
theorem dl_wsX8_corner_r5 : ∀ w ∈ wsX8_corner_r5, w ∈ lw_tbl := (List.forall_mem_cons.mpr ⟨tw_438, (List.forall_mem_cons.mpr ⟨tw_439, (List.forall_mem_cons.mpr ⟨tw_440, (List.forall_mem_cons.mpr ⟨tw_442, (List.forall_mem_cons.mpr ⟨tw_10, (List.forall_mem_cons.mpr ⟨tw_443, (List.forall_mem_cons.mpr ⟨tw_229, (List.forall_mem_cons.mpr ⟨tw_444, (List.forall_mem_cons.mpr ⟨tw_445, (List.forall_mem_cons.mpr ⟨tw_446, (List.forall_mem_cons.mpr ⟨tw_447, (List.forall_mem_cons.mpr ⟨tw_453, (List.forall_mem_cons.mpr ⟨tw_448, (List.forall_mem_cons.mpr ⟨tw_449, (List.forall_mem_cons.mpr ⟨tw_450, (List.forall_mem_cons.mpr ⟨tw_451, (List.forall_mem_cons.mpr ⟨tw_452, (List.forall_mem_cons.mpr ⟨tw_361, (List.forall_mem_cons.mpr ⟨tw_362, (List.forall_mem_cons.mpr ⟨tw_363, (List.forall_mem_cons.mpr ⟨tw_454, (List.forall_mem_cons.mpr ⟨tw_455, (List.forall_mem_cons.mpr ⟨tw_456, (List.forall_mem_cons.mpr ⟨tw_457, (fun _ h => absurd h List.not_mem_nil)⟩)⟩)⟩)⟩)⟩)⟩)⟩)⟩)⟩)⟩)⟩)⟩)⟩)⟩)⟩)⟩)⟩)⟩)⟩)⟩)⟩)⟩)⟩)⟩)
set_option maxRecDepth 100000 in
theorem tw_693 : Cond.methodLink RX0 122 yX0_twosAt ∈ lw_tbl := List.mem_append_right _ (List.mem_append_right _ (List.mem_append_right _ (List.mem_append_left _ (List.mem_of_getElem? (i := 140) rfl))))
set_option maxRecDepth 100000 in
theorem tw_692 : Cond.code yX0_areBeside cX0_areBeside 5 (some .boolean) ∈ lw_tbl := List.mem_append_right _ (List.mem_append_right _ (List.mem_append_right _ (List.mem_append_left _ (List.mem_of_getElem? (i := 139) rfl))))
set_option maxRecDepth 100000 in
theorem tw_691 : Cond.selects RX0 yX0_areBeside yX0_areBeside ∈ lw_tbl := List.mem_append_right _ (List.mem_append_right _ (List.mem_append_right _ (List.mem_append_left _ (List.mem_of_getElem? (i := 138) rfl))))
set_option maxRecDepth 100000 in
theorem tw_690 : Cond.instanceMethod yX0_areBeside ∈ lw_tbl := List.mem_append_right _ (List.mem_append_right _ (List.mem_append_right _ (List.mem_append_left _ (List.mem_of_getElem? (i := 137) rfl))))
set_option maxRecDepth 100000 in
theorem tw_689 : Cond.methodLink RX0 129 yX0_areBeside ∈ lw_tbl := List.mem_append_right _ (List.mem_append_right _ (List.mem_append_right _ (List.mem_append_left _ (List.mem_of_getElem? (i := 136) rfl))))
set_option maxRecDepth 100000 in
theorem tw_688 : Cond.code yX0_neighbours cX0_neighbours 4 (some .int) ∈ lw_tbl := List.mem_append_right _ (List.mem_append_right _ (List.mem_append_right _ (List.mem_append_left _ (List.mem_of_getElem? (i := 135) rfl))))
set_option maxRecDepth 100000 in
theorem tw_687 : Cond.selects RX0 yX0_neighbours yX0_neighbours ∈ lw_tbl := List.mem_append_right _ (List.mem_append_right _ (List.mem_append_right _ (List.mem_append_left _ (List.mem_of_getElem? (i := 134) rfl))))
set_option maxRecDepth 100000 in
theorem tw_686 : Cond.instanceMethod yX0_neighbours ∈ lw_tbl := List.mem_append_right _ (List.mem_append_right _ (List.mem_append_right _ (List.mem_append_left _ (List.mem_of_getElem? (i := 133) rfl))))
set_option maxRecDepth 100000 in
theorem tw_685 : Cond.methodLink RX8 202 yX0_neighbours ∈ lw_tbl := List.mem_append_right _ (List.mem_append_right _ (List.mem_append_right _ (List.mem_append_left _ (List.mem_of_getElem? (i := 132) rfl))))
set_option maxRecDepth 100000 in
theorem tw_684 : Cond.constant RJ6 267 (252645135) ∈ lw_tbl := List.mem_append_right _ (List.mem_append_right _ (List.mem_append_right _ (List.mem_append_left _ (List.mem_of_getElem? (i := 131) rfl))))
set_option maxRecDepth 100000 in
theorem tw_683 : Cond.constant RJ6 266 (858993459) ∈ lw_tbl := List.mem_append_right _ (List.mem_append_right _ (List.mem_append_right _ (List.mem_append_left _ (List.mem_of_getElem? (i := 130) rfl))))
set_option maxRecDepth 100000 in
theorem tw_682 : Cond.constant RJ6 265 (1431655765) ∈ lw_tbl := List.mem_append_right _ (List.mem_append_right _ (List.mem_append_right _ (List.mem_append_left _ (List.mem_of_getElem? (i := 129) rfl))))
set_option maxRecDepth 100000 in
theorem tw_681 : Cond.code yJ6_bitCount_0f7a4 cJ6_bitCount_0f7a4 1 (some .int) ∈ lw_tbl := List.mem_append_right _ (List.mem_append_right _ (List.mem_append_right _ (List.mem_append_left _ (List.mem_of_getElem? (i := 128) rfl))))
set_option maxRecDepth 100000 in
theorem tw_86 : Cond.initialized RJ6 ∈ lw_tbl := List.mem_append_right _ (List.mem_append_left _ (List.mem_of_getElem? (i := 13) rfl))
set_option maxRecDepth 100000 in
theorem tw_680 : Cond.static yJ6_bitCount_0f7a4 ∈ lw_tbl := List.mem_append_right _ (List.mem_append_right _ (List.mem_append_right _ (List.mem_append_left _ (List.mem_of_getElem? (i := 127) rfl))))
set_option maxRecDepth 100000 in
theorem tw_679 : Cond.methodLink RX7 16 yJ6_bitCount_0f7a4 ∈ lw_tbl := List.mem_append_right _ (List.mem_append_right _ (List.mem_append_right _ (List.mem_append_left _ (List.mem_of_getElem? (i := 126) rfl))))
set_option maxRecDepth 100000 in
theorem tw_678 : Cond.constant RX7 15 (17593311) ∈ lw_tbl := List.mem_append_right _ (List.mem_append_right _ (List.mem_append_right _ (List.mem_append_left _ (List.mem_of_getElem? (i := 125) rfl))))
set_option maxRecDepth 100000 in
theorem tw_677 : Cond.code yX7_manyTwos cX7_manyTwos 1 (some .int) ∈ lw_tbl := List.mem_append_right _ (List.mem_append_right _ (List.mem_append_right _ (List.mem_append_left _ (List.mem_of_getElem? (i := 124) rfl))))
set_option maxRecDepth 100000 in
theorem tw_676 : Cond.static yX7_manyTwos ∈ lw_tbl := List.mem_append_right _ (List.mem_append_right _ (List.mem_append_right _ (List.mem_append_left _ (List.mem_of_getElem? (i := 123) rfl))))
set_option maxRecDepth 100000 in
theorem tw_675 : Cond.methodLink RX8 199 yX7_manyTwos ∈ lw_tbl := List.mem_append_right _ (List.mem_append_right _ (List.mem_append_right _ (List.mem_append_left _ (List.mem_of_getElem? (i := 122) rfl))))
set_option maxRecDepth 100000 in
theorem tw_674 : Cond.code yX0_twosAt cX0_twosAt 2 (some .int) ∈ lw_tbl := List.mem_append_right _ (List.mem_append_right _ (List.mem_append_right _ (List.mem_append_left _ (List.mem_of_getElem? (i := 121) rfl))))
set_option maxRecDepth 100000 in
theorem tw_673 : Cond.selects RX0 yX0_twosAt yX0_twosAt ∈ lw_tbl := List.mem_append_right _ (List.mem_append_right _ (List.mem_append_right _ (List.mem_append_left _ (List.mem_of_getElem? (i := 120) rfl))))
set_option maxRecDepth 100000 in
theorem tw_672 : Cond.instanceMethod yX0_twosAt ∈ lw_tbl := List.mem_append_right _ (List.mem_append_right _ (List.mem_append_right _ (List.mem_append_left _ (List.mem_of_getElem? (i := 119) rfl))))
set_option maxRecDepth 100000 in
theorem tw_671 : Cond.methodLink RX8 196 yX0_twosAt ∈ lw_tbl := List.mem_append_right _ (List.mem_append_right _ (List.mem_append_right _ (List.mem_append_left _ (List.mem_of_getElem? (i := 118) rfl))))
set_option maxRecDepth 100000 in
theorem dl_wsX8_corner_r6 : ∀ w ∈ wsX8_corner_r6, w ∈ lw_tbl := (List.forall_mem_cons.mpr ⟨tw_671, (List.forall_mem_cons.mpr ⟨tw_672, (List.forall_mem_cons.mpr ⟨tw_673, (List.forall_mem_cons.mpr ⟨tw_674, (List.forall_mem_cons.mpr ⟨tw_675, (List.forall_mem_cons.mpr ⟨tw_676, (List.forall_mem_cons.mpr ⟨tw_677, (List.forall_mem_cons.mpr ⟨tw_678, (List.forall_mem_cons.mpr ⟨tw_679, (List.forall_mem_cons.mpr ⟨tw_680, (List.forall_mem_cons.mpr ⟨tw_86, (List.forall_mem_cons.mpr ⟨tw_681, (List.forall_mem_cons.mpr ⟨tw_682, (List.forall_mem_cons.mpr ⟨tw_683, (List.forall_mem_cons.mpr ⟨tw_684, (List.forall_mem_cons.mpr ⟨tw_685, (List.forall_mem_cons.mpr ⟨tw_686, (List.forall_mem_cons.mpr ⟨tw_687, (List.forall_mem_cons.mpr ⟨tw_688, (List.forall_mem_cons.mpr ⟨tw_689, (List.forall_mem_cons.mpr ⟨tw_690, (List.forall_mem_cons.mpr ⟨tw_691, (List.forall_mem_cons.mpr ⟨tw_692, (List.forall_mem_cons.mpr ⟨tw_693, (fun _ h => absurd h List.not_mem_nil)⟩)⟩)⟩)⟩)⟩)⟩)⟩)⟩)⟩)⟩)⟩)⟩)⟩)⟩)⟩)⟩)⟩)⟩)⟩)⟩)⟩)⟩)⟩)⟩)
set_option maxRecDepth 100000 in
theorem tw_698 : Cond.code yX0_ownerOf cX0_ownerOf 3 (some .int) ∈ lw_tbl := List.mem_append_right _ (List.mem_append_right _ (List.mem_append_right _ (List.mem_append_left _ (List.mem_of_getElem? (i := 145) rfl))))
set_option maxRecDepth 100000 in
theorem tw_697 : Cond.selects RX0 yX0_ownerOf yX0_ownerOf ∈ lw_tbl := List.mem_append_right _ (List.mem_append_right _ (List.mem_append_right _ (List.mem_append_left _ (List.mem_of_getElem? (i := 144) rfl))))
set_option maxRecDepth 100000 in
theorem tw_696 : Cond.instanceMethod yX0_ownerOf ∈ lw_tbl := List.mem_append_right _ (List.mem_append_right _ (List.mem_append_right _ (List.mem_append_left _ (List.mem_of_getElem? (i := 143) rfl))))
set_option maxRecDepth 100000 in
theorem tw_695 : Cond.methodLink RX8 205 yX0_ownerOf ∈ lw_tbl := List.mem_append_right _ (List.mem_append_right _ (List.mem_append_right _ (List.mem_append_left _ (List.mem_of_getElem? (i := 142) rfl))))
set_option maxRecDepth 100000 in
theorem tw_694 : Cond.methodLink RX0 125 yX7_coverAll ∈ lw_tbl := List.mem_append_right _ (List.mem_append_right _ (List.mem_append_right _ (List.mem_append_left _ (List.mem_of_getElem? (i := 141) rfl))))
set_option maxRecDepth 100000 in
theorem dl_wsX8_corner_r7 : ∀ w ∈ wsX8_corner_r7, w ∈ lw_tbl := (List.forall_mem_cons.mpr ⟨tw_694, (List.forall_mem_cons.mpr ⟨tw_634, (List.forall_mem_cons.mpr ⟨tw_635, (List.forall_mem_cons.mpr ⟨tw_636, (List.forall_mem_cons.mpr ⟨tw_637, (List.forall_mem_cons.mpr ⟨tw_638, (List.forall_mem_cons.mpr ⟨tw_695, (List.forall_mem_cons.mpr ⟨tw_696, (List.forall_mem_cons.mpr ⟨tw_697, (List.forall_mem_cons.mpr ⟨tw_698, (fun _ h => absurd h List.not_mem_nil)⟩)⟩)⟩)⟩)⟩)⟩)⟩)⟩)⟩)⟩)
set_option maxRecDepth 100000 in
theorem dl_wsX8_corner : ∀ w ∈ wsX8_corner, w ∈ lw_tbl := (List.forall_mem_cons.mpr ⟨tw_670, (List.forall_mem_append.mpr ⟨(List.forall_mem_append.mpr ⟨(List.forall_mem_append.mpr ⟨(List.forall_mem_append.mpr ⟨(List.forall_mem_append.mpr ⟨dl_wsX8_corner_r1, (List.forall_mem_append.mpr ⟨dl_wsX8_corner_r2, (List.forall_mem_append.mpr ⟨dl_wsX8_corner_r3, (List.forall_mem_append.mpr ⟨dl_wsX8_corner_r4, (List.forall_mem_append.mpr ⟨dl_wsX8_corner_r5, (List.forall_mem_append.mpr ⟨dl_wsX8_corner_r6, dl_wsX8_corner_r7⟩)⟩)⟩)⟩)⟩)⟩), fu_wsX80⟩), fu_wsX20⟩), fu_wsX00⟩), fu_wsX40⟩)⟩)
set_option maxRecDepth 100000 in
theorem tw_669 : Cond.selects RX8 yX8_corner yX8_corner ∈ lw_tbl := List.mem_append_right _ (List.mem_append_right _ (List.mem_append_right _ (List.mem_append_left _ (List.mem_of_getElem? (i := 116) rfl))))
set_option maxRecDepth 100000 in
theorem tw_668 : Cond.instanceMethod yX8_corner ∈ lw_tbl := List.mem_append_right _ (List.mem_append_right _ (List.mem_append_right _ (List.mem_append_left _ (List.mem_of_getElem? (i := 115) rfl))))
set_option maxRecDepth 100000 in
theorem tw_667 : Cond.methodLink RL 77 yX8_corner ∈ lw_tbl := List.mem_append_right _ (List.mem_append_right _ (List.mem_append_right _ (List.mem_append_left _ (List.mem_of_getElem? (i := 114) rfl))))
set_option maxRecDepth 100000 in
theorem tw_1209 : Cond.code yX9_corner cX9_corner 5 (some .int) ∈ lw_tbl := List.mem_append_right _ (List.mem_append_right _ (List.mem_append_right _ (List.mem_append_right _ (List.mem_append_right _ (List.mem_append_left _ (List.mem_of_getElem? (i := 176) rfl))))))
set_option maxRecDepth 100000 in
theorem dl_wsX9_corner_r1 : ∀ w ∈ wsX9_corner_r1, w ∈ lw_tbl := (List.forall_mem_cons.mpr ⟨tw_930, (List.forall_mem_cons.mpr ⟨tw_1194, (List.forall_mem_cons.mpr ⟨tw_1196, (List.forall_mem_cons.mpr ⟨tw_57, (List.forall_mem_cons.mpr ⟨tw_83, (List.forall_mem_cons.mpr ⟨tw_1197, (List.forall_mem_cons.mpr ⟨tw_1057, (List.forall_mem_cons.mpr ⟨tw_1059, (List.forall_mem_cons.mpr ⟨tw_30, (List.forall_mem_cons.mpr ⟨tw_1060, (List.forall_mem_cons.mpr ⟨tw_907, (List.forall_mem_cons.mpr ⟨tw_1036, (List.forall_mem_cons.mpr ⟨tw_1038, (List.forall_mem_cons.mpr ⟨tw_28, (List.forall_mem_cons.mpr ⟨tw_1039, (List.forall_mem_cons.mpr ⟨tw_908, (List.forall_mem_cons.mpr ⟨tw_1061, (List.forall_mem_cons.mpr ⟨tw_1063, (List.forall_mem_cons.mpr ⟨tw_31, (List.forall_mem_cons.mpr ⟨tw_1064, (List.forall_mem_cons.mpr ⟨tw_932, (List.forall_mem_cons.mpr ⟨tw_1065, (List.forall_mem_cons.mpr ⟨tw_1067, (List.forall_mem_cons.mpr ⟨tw_32, (fun _ h => absurd h List.not_mem_nil)⟩)⟩)⟩)⟩)⟩)⟩)⟩)⟩)⟩)⟩)⟩)⟩)⟩)⟩)⟩)⟩)⟩)⟩)⟩)⟩)⟩)⟩)⟩)⟩)
set_option maxRecDepth 100000 in
theorem dl_wsX9_corner_r2 : ∀ w ∈ wsX9_corner_r2, w ∈ lw_tbl := (List.forall_mem_cons.mpr ⟨tw_1068, (List.forall_mem_cons.mpr ⟨tw_1069, (List.forall_mem_cons.mpr ⟨tw_1071, (List.forall_mem_cons.mpr ⟨tw_33, (List.forall_mem_cons.mpr ⟨tw_1072, (List.forall_mem_cons.mpr ⟨tw_933, (List.forall_mem_cons.mpr ⟨tw_1073, (List.forall_mem_cons.mpr ⟨tw_1075, (List.forall_mem_cons.mpr ⟨tw_34, (List.forall_mem_cons.mpr ⟨tw_1076, (List.forall_mem_cons.mpr ⟨tw_1077, (List.forall_mem_cons.mpr ⟨tw_1079, (List.forall_mem_cons.mpr ⟨tw_35, (List.forall_mem_cons.mpr ⟨tw_1080, (List.forall_mem_cons.mpr ⟨tw_931, (List.forall_mem_cons.mpr ⟨tw_1081, (List.forall_mem_cons.mpr ⟨tw_1083, (List.forall_mem_cons.mpr ⟨tw_36, (List.forall_mem_cons.mpr ⟨tw_1084, (List.forall_mem_cons.mpr ⟨tw_1202, (List.forall_mem_cons.mpr ⟨tw_1204, (List.forall_mem_cons.mpr ⟨tw_58, (List.forall_mem_cons.mpr ⟨tw_1205, (List.forall_mem_cons.mpr ⟨tw_1017, (fun _ h => absurd h List.not_mem_nil)⟩)⟩)⟩)⟩)⟩)⟩)⟩)⟩)⟩)⟩)⟩)⟩)⟩)⟩)⟩)⟩)⟩)⟩)⟩)⟩)⟩)⟩)⟩)⟩)
set_option maxRecDepth 100000 in
theorem tw_1225 : Cond.code yX9_hasAll cX9_hasAll 6 (some .boolean) ∈ lw_tbl := List.mem_append_right _ (List.mem_append_right _ (List.mem_append_right _ (List.mem_append_right _ (List.mem_append_right _ (List.mem_append_left _ (List.mem_of_getElem? (i := 192) rfl))))))
set_option maxRecDepth 100000 in
theorem tw_62 : Cond.selects RX9 yX9_hasAll yX9_hasAll ∈ lw_tbl := List.mem_append_left _ (List.mem_of_getElem? (i := 62) rfl)
set_option maxRecDepth 100000 in
theorem tw_1224 : Cond.instanceMethod yX9_hasAll ∈ lw_tbl := List.mem_append_right _ (List.mem_append_right _ (List.mem_append_right _ (List.mem_append_right _ (List.mem_append_right _ (List.mem_append_left _ (List.mem_of_getElem? (i := 191) rfl))))))
set_option maxRecDepth 100000 in
theorem tw_1222 : Cond.methodLink RX9 218 yX9_hasAll ∈ lw_tbl := List.mem_append_right _ (List.mem_append_right _ (List.mem_append_right _ (List.mem_append_right _ (List.mem_append_right _ (List.mem_append_left _ (List.mem_of_getElem? (i := 189) rfl))))))
set_option maxRecDepth 100000 in
theorem tw_1221 : Cond.code yX9_areBeside cX9_areBeside 4 (some .boolean) ∈ lw_tbl := List.mem_append_right _ (List.mem_append_right _ (List.mem_append_right _ (List.mem_append_right _ (List.mem_append_right _ (List.mem_append_left _ (List.mem_of_getElem? (i := 188) rfl))))))
set_option maxRecDepth 100000 in
theorem tw_61 : Cond.selects RX9 yX9_areBeside yX9_areBeside ∈ lw_tbl := List.mem_append_left _ (List.mem_of_getElem? (i := 61) rfl)
set_option maxRecDepth 100000 in
theorem tw_1220 : Cond.instanceMethod yX9_areBeside ∈ lw_tbl := List.mem_append_right _ (List.mem_append_right _ (List.mem_append_right _ (List.mem_append_right _ (List.mem_append_right _ (List.mem_append_left _ (List.mem_of_getElem? (i := 187) rfl))))))
set_option maxRecDepth 100000 in
theorem tw_1218 : Cond.methodLink RX9 224 yX9_areBeside ∈ lw_tbl := List.mem_append_right _ (List.mem_append_right _ (List.mem_append_right _ (List.mem_append_right _ (List.mem_append_right _ (List.mem_append_left _ (List.mem_of_getElem? (i := 185) rfl))))))
set_option maxRecDepth 100000 in
theorem tw_1217 : Cond.code yX9_eyeOf cX9_eyeOf 5 (some .int) ∈ lw_tbl := List.mem_append_right _ (List.mem_append_right _ (List.mem_append_right _ (List.mem_append_right _ (List.mem_append_right _ (List.mem_append_left _ (List.mem_of_getElem? (i := 184) rfl))))))
set_option maxRecDepth 100000 in
theorem tw_60 : Cond.selects RX9 yX9_eyeOf yX9_eyeOf ∈ lw_tbl := List.mem_append_left _ (List.mem_of_getElem? (i := 60) rfl)
set_option maxRecDepth 100000 in
theorem tw_1216 : Cond.instanceMethod yX9_eyeOf ∈ lw_tbl := List.mem_append_right _ (List.mem_append_right _ (List.mem_append_right _ (List.mem_append_right _ (List.mem_append_right _ (List.mem_append_left _ (List.mem_of_getElem? (i := 183) rfl))))))
set_option maxRecDepth 100000 in
theorem tw_1214 : Cond.methodLink RX9 221 yX9_eyeOf ∈ lw_tbl := List.mem_append_right _ (List.mem_append_right _ (List.mem_append_right _ (List.mem_append_right _ (List.mem_append_right _ (List.mem_append_left _ (List.mem_of_getElem? (i := 181) rfl))))))
set_option maxRecDepth 100000 in
theorem tw_1213 : Cond.code yX9_common cX9_common 7 (some .int) ∈ lw_tbl := List.mem_append_right _ (List.mem_append_right _ (List.mem_append_right _ (List.mem_append_right _ (List.mem_append_right _ (List.mem_append_left _ (List.mem_of_getElem? (i := 180) rfl))))))
set_option maxRecDepth 100000 in
theorem tw_59 : Cond.selects RX9 yX9_common yX9_common ∈ lw_tbl := List.mem_append_left _ (List.mem_of_getElem? (i := 59) rfl)
set_option maxRecDepth 100000 in
theorem tw_1212 : Cond.instanceMethod yX9_common ∈ lw_tbl := List.mem_append_right _ (List.mem_append_right _ (List.mem_append_right _ (List.mem_append_right _ (List.mem_append_right _ (List.mem_append_left _ (List.mem_of_getElem? (i := 179) rfl))))))
set_option maxRecDepth 100000 in
theorem tw_1210 : Cond.methodLink RX9 215 yX9_common ∈ lw_tbl := List.mem_append_right _ (List.mem_append_right _ (List.mem_append_right _ (List.mem_append_right _ (List.mem_append_right _ (List.mem_append_left _ (List.mem_of_getElem? (i := 177) rfl))))))
set_option maxRecDepth 100000 in
theorem dl_wsX9_corner_r3 : ∀ w ∈ wsX9_corner_r3, w ∈ lw_tbl := (List.forall_mem_cons.mpr ⟨tw_1018, (List.forall_mem_cons.mpr ⟨tw_1019, (List.forall_mem_cons.mpr ⟨tw_1210, (List.forall_mem_cons.mpr ⟨tw_1212, (List.forall_mem_cons.mpr ⟨tw_59, (List.forall_mem_cons.mpr ⟨tw_1213, (List.forall_mem_cons.mpr ⟨tw_1170, (List.forall_mem_cons.mpr ⟨tw_1172, (List.forall_mem_cons.mpr ⟨tw_54, (List.forall_mem_cons.mpr ⟨tw_1173, (List.forall_mem_cons.mpr ⟨tw_1214, (List.forall_mem_cons.mpr ⟨tw_1216, (List.forall_mem_cons.mpr ⟨tw_60, (List.forall_mem_cons.mpr ⟨tw_1217, (List.forall_mem_cons.mpr ⟨tw_1218, (List.forall_mem_cons.mpr ⟨tw_1220, (List.forall_mem_cons.mpr ⟨tw_61, (List.forall_mem_cons.mpr ⟨tw_1221, (List.forall_mem_cons.mpr ⟨tw_1222, (List.forall_mem_cons.mpr ⟨tw_1224, (List.forall_mem_cons.mpr ⟨tw_62, (List.forall_mem_cons.mpr ⟨tw_1225, (fun _ h => absurd h List.not_mem_nil)⟩)⟩)⟩)⟩)⟩)⟩)⟩)⟩)⟩)⟩)⟩)⟩)⟩)⟩)⟩)⟩)⟩)⟩)⟩)⟩)⟩)⟩)
set_option maxRecDepth 100000 in
theorem dl_wsX9_corner : ∀ w ∈ wsX9_corner, w ∈ lw_tbl := (List.forall_mem_cons.mpr ⟨tw_1209, (List.forall_mem_append.mpr ⟨(List.forall_mem_append.mpr ⟨dl_wsX9_corner_r1, (List.forall_mem_append.mpr ⟨dl_wsX9_corner_r2, dl_wsX9_corner_r3⟩)⟩), fu_wsX90⟩)⟩)
set_option maxRecDepth 100000 in
theorem tw_1208 : Cond.selects RX9 yX9_corner yX9_corner ∈ lw_tbl := List.mem_append_right _ (List.mem_append_right _ (List.mem_append_right _ (List.mem_append_right _ (List.mem_append_right _ (List.mem_append_left _ (List.mem_of_getElem? (i := 175) rfl))))))
set_option maxRecDepth 100000 in
theorem tw_1207 : Cond.instanceMethod yX9_corner ∈ lw_tbl := List.mem_append_right _ (List.mem_append_right _ (List.mem_append_right _ (List.mem_append_right _ (List.mem_append_right _ (List.mem_append_left _ (List.mem_of_getElem? (i := 174) rfl))))))
set_option maxRecDepth 100000 in
theorem tw_1206 : Cond.methodLink RL 80 yX9_corner ∈ lw_tbl := List.mem_append_right _ (List.mem_append_right _ (List.mem_append_right _ (List.mem_append_right _ (List.mem_append_right _ (List.mem_append_left _ (List.mem_of_getElem? (i := 173) rfl))))))
set_option maxRecDepth 100000 in
theorem tw_702 : Cond.code yX8_tight cX8_tight 5 (some .int) ∈ lw_tbl := List.mem_append_right _ (List.mem_append_right _ (List.mem_append_right _ (List.mem_append_left _ (List.mem_of_getElem? (i := 149) rfl))))
set_option maxRecDepth 100000 in
theorem dl_wsX8_tight_r1 : ∀ w ∈ wsX8_tight_r1, w ∈ lw_tbl := (List.forall_mem_cons.mpr ⟨tw_291, (List.forall_mem_cons.mpr ⟨tw_163, (List.forall_mem_cons.mpr ⟨tw_296, (List.forall_mem_cons.mpr ⟨tw_381, (List.forall_mem_cons.mpr ⟨tw_383, (List.forall_mem_cons.mpr ⟨tw_1, (List.forall_mem_cons.mpr ⟨tw_74, (List.forall_mem_cons.mpr ⟨tw_384, (List.forall_mem_cons.mpr ⟨tw_231, (List.forall_mem_cons.mpr ⟨tw_385, (List.forall_mem_cons.mpr ⟨tw_386, (List.forall_mem_cons.mpr ⟨tw_387, (List.forall_mem_cons.mpr ⟨tw_80, (List.forall_mem_cons.mpr ⟨tw_388, (List.forall_mem_cons.mpr ⟨tw_226, (List.forall_mem_cons.mpr ⟨tw_225, (List.forall_mem_cons.mpr ⟨tw_232, (List.forall_mem_cons.mpr ⟨tw_230, (List.forall_mem_cons.mpr ⟨tw_389, (List.forall_mem_cons.mpr ⟨tw_390, (List.forall_mem_cons.mpr ⟨tw_391, (List.forall_mem_cons.mpr ⟨tw_76, (List.forall_mem_cons.mpr ⟨tw_392, (List.forall_mem_cons.mpr ⟨tw_126, (fun _ h => absurd h List.not_mem_nil)⟩)⟩)⟩)⟩)⟩)⟩)⟩)⟩)⟩)⟩)⟩)⟩)⟩)⟩)⟩)⟩)⟩)⟩)⟩)⟩)⟩)⟩)⟩)⟩)
set_option maxRecDepth 100000 in
theorem dl_wsX8_tight_r2 : ∀ w ∈ wsX8_tight_r2, w ∈ lw_tbl := (List.forall_mem_cons.mpr ⟨tw_393, (List.forall_mem_cons.mpr ⟨tw_353, (List.forall_mem_cons.mpr ⟨tw_354, (List.forall_mem_cons.mpr ⟨tw_355, (List.forall_mem_cons.mpr ⟨tw_351, (List.forall_mem_cons.mpr ⟨tw_327, (List.forall_mem_cons.mpr ⟨tw_328, (List.forall_mem_cons.mpr ⟨tw_329, (List.forall_mem_cons.mpr ⟨tw_131, (List.forall_mem_cons.mpr ⟨tw_394, (List.forall_mem_cons.mpr ⟨tw_341, (List.forall_mem_cons.mpr ⟨tw_342, (List.forall_mem_cons.mpr ⟨tw_343, (List.forall_mem_cons.mpr ⟨tw_344, (List.forall_mem_cons.mpr ⟨tw_346, (List.forall_mem_cons.mpr ⟨tw_345, (List.forall_mem_cons.mpr ⟨tw_84, (List.forall_mem_cons.mpr ⟨tw_395, (List.forall_mem_cons.mpr ⟨tw_396, (List.forall_mem_cons.mpr ⟨tw_397, (List.forall_mem_cons.mpr ⟨tw_398, (List.forall_mem_cons.mpr ⟨tw_399, (List.forall_mem_cons.mpr ⟨tw_400, (List.forall_mem_cons.mpr ⟨tw_401, (fun _ h => absurd h List.not_mem_nil)⟩)⟩)⟩)⟩)⟩)⟩)⟩)⟩)⟩)⟩)⟩)⟩)⟩)⟩)⟩)⟩)⟩)⟩)⟩)⟩)⟩)⟩)⟩)⟩)
set_option maxRecDepth 100000 in
theorem dl_wsX8_tight_r3 : ∀ w ∈ wsX8_tight_r3, w ∈ lw_tbl := (List.forall_mem_cons.mpr ⟨tw_402, (List.forall_mem_cons.mpr ⟨tw_403, (List.forall_mem_cons.mpr ⟨tw_405, (List.forall_mem_cons.mpr ⟨tw_2, (List.forall_mem_cons.mpr ⟨tw_406, (List.forall_mem_cons.mpr ⟨tw_128, (List.forall_mem_cons.mpr ⟨tw_407, (List.forall_mem_cons.mpr ⟨tw_409, (List.forall_mem_cons.mpr ⟨tw_3, (List.forall_mem_cons.mpr ⟨tw_410, (List.forall_mem_cons.mpr ⟨tw_227, (List.forall_mem_cons.mpr ⟨tw_411, (List.forall_mem_cons.mpr ⟨tw_412, (List.forall_mem_cons.mpr ⟨tw_414, (List.forall_mem_cons.mpr ⟨tw_4, (List.forall_mem_cons.mpr ⟨tw_415, (List.forall_mem_cons.mpr ⟨tw_228, (List.forall_mem_cons.mpr ⟨tw_416, (List.forall_mem_cons.mpr ⟨tw_418, (List.forall_mem_cons.mpr ⟨tw_5, (List.forall_mem_cons.mpr ⟨tw_419, (List.forall_mem_cons.mpr ⟨tw_420, (List.forall_mem_cons.mpr ⟨tw_422, (List.forall_mem_cons.mpr ⟨tw_6, (fun _ h => absurd h List.not_mem_nil)⟩)⟩)⟩)⟩)⟩)⟩)⟩)⟩)⟩)⟩)⟩)⟩)⟩)⟩)⟩)⟩)⟩)⟩)⟩)⟩)⟩)⟩)⟩)⟩)
set_option maxRecDepth 100000 in
theorem dl_wsX8_tight_r4 : ∀ w ∈ wsX8_tight_r4, w ∈ lw_tbl := (List.forall_mem_cons.mpr ⟨tw_423, (List.forall_mem_cons.mpr ⟨tw_424, (List.forall_mem_cons.mpr ⟨tw_373, (List.forall_mem_cons.mpr ⟨tw_85, (List.forall_mem_cons.mpr ⟨tw_374, (List.forall_mem_cons.mpr ⟨tw_130, (List.forall_mem_cons.mpr ⟨tw_376, (List.forall_mem_cons.mpr ⟨tw_115, (List.forall_mem_cons.mpr ⟨tw_77, (List.forall_mem_cons.mpr ⟨tw_116, (List.forall_mem_cons.mpr ⟨tw_375, (List.forall_mem_cons.mpr ⟨tw_425, (List.forall_mem_cons.mpr ⟨tw_427, (List.forall_mem_cons.mpr ⟨tw_7, (List.forall_mem_cons.mpr ⟨tw_428, (List.forall_mem_cons.mpr ⟨tw_429, (List.forall_mem_cons.mpr ⟨tw_431, (List.forall_mem_cons.mpr ⟨tw_8, (List.forall_mem_cons.mpr ⟨tw_432, (List.forall_mem_cons.mpr ⟨tw_433, (List.forall_mem_cons.mpr ⟨tw_435, (List.forall_mem_cons.mpr ⟨tw_9, (List.forall_mem_cons.mpr ⟨tw_436, (List.forall_mem_cons.mpr ⟨tw_437, (fun _ h => absurd h List.not_mem_nil)⟩)⟩)⟩)⟩)⟩)⟩)⟩)⟩)⟩)⟩)⟩)⟩)⟩)⟩)⟩)⟩)⟩)⟩)⟩)⟩)⟩)⟩)⟩)⟩)
set_option maxRecDepth 100000 in
theorem dl_wsX8_tight_r5 : ∀ w ∈ wsX8_tight_r5, w ∈ lw_tbl := (List.forall_mem_cons.mpr ⟨tw_438, (List.forall_mem_cons.mpr ⟨tw_439, (List.forall_mem_cons.mpr ⟨tw_440, (List.forall_mem_cons.mpr ⟨tw_442, (List.forall_mem_cons.mpr ⟨tw_10, (List.forall_mem_cons.mpr ⟨tw_443, (List.forall_mem_cons.mpr ⟨tw_229, (List.forall_mem_cons.mpr ⟨tw_444, (List.forall_mem_cons.mpr ⟨tw_445, (List.forall_mem_cons.mpr ⟨tw_446, (List.forall_mem_cons.mpr ⟨tw_447, (List.forall_mem_cons.mpr ⟨tw_453, (List.forall_mem_cons.mpr ⟨tw_448, (List.forall_mem_cons.mpr ⟨tw_449, (List.forall_mem_cons.mpr ⟨tw_450, (List.forall_mem_cons.mpr ⟨tw_451, (List.forall_mem_cons.mpr ⟨tw_452, (List.forall_mem_cons.mpr ⟨tw_361, (List.forall_mem_cons.mpr ⟨tw_362, (List.forall_mem_cons.mpr ⟨tw_363, (List.forall_mem_cons.mpr ⟨tw_454, (List.forall_mem_cons.mpr ⟨tw_455, (List.forall_mem_cons.mpr ⟨tw_456, (List.forall_mem_cons.mpr ⟨tw_457, (fun _ h => absurd h List.not_mem_nil)⟩)⟩)⟩)⟩)⟩)⟩)⟩)⟩)⟩)⟩)⟩)⟩)⟩)⟩)⟩)⟩)⟩)⟩)⟩)⟩)⟩)⟩)⟩)⟩)
set_option maxRecDepth 100000 in
theorem tw_705 : Cond.code yX7_joins cX7_joins 3 (some .boolean) ∈ lw_tbl := List.mem_append_right _ (List.mem_append_right _ (List.mem_append_right _ (List.mem_append_left _ (List.mem_of_getElem? (i := 152) rfl))))
set_option maxRecDepth 100000 in
theorem tw_704 : Cond.static yX7_joins ∈ lw_tbl := List.mem_append_right _ (List.mem_append_right _ (List.mem_append_right _ (List.mem_append_left _ (List.mem_of_getElem? (i := 151) rfl))))
set_option maxRecDepth 100000 in
theorem tw_703 : Cond.methodLink RX8 208 yX7_joins ∈ lw_tbl := List.mem_append_right _ (List.mem_append_right _ (List.mem_append_right _ (List.mem_append_left _ (List.mem_of_getElem? (i := 150) rfl))))
set_option maxRecDepth 100000 in
theorem dl_wsX8_tight_r6 : ∀ w ∈ wsX8_tight_r6, w ∈ lw_tbl := (List.forall_mem_cons.mpr ⟨tw_360, (List.forall_mem_cons.mpr ⟨tw_671, (List.forall_mem_cons.mpr ⟨tw_672, (List.forall_mem_cons.mpr ⟨tw_673, (List.forall_mem_cons.mpr ⟨tw_674, (List.forall_mem_cons.mpr ⟨tw_703, (List.forall_mem_cons.mpr ⟨tw_704, (List.forall_mem_cons.mpr ⟨tw_705, (List.forall_mem_cons.mpr ⟨tw_636, (List.forall_mem_cons.mpr ⟨tw_637, (List.forall_mem_cons.mpr ⟨tw_638, (List.forall_mem_cons.mpr ⟨tw_577, (List.forall_mem_cons.mpr ⟨tw_578, (List.forall_mem_cons.mpr ⟨tw_579, (fun _ h => absurd h List.not_mem_nil)⟩)⟩)⟩)⟩)⟩)⟩)⟩)⟩)⟩)⟩)⟩)⟩)⟩)⟩)
set_option maxRecDepth 100000 in
theorem dl_wsX8_tight : ∀ w ∈ wsX8_tight, w ∈ lw_tbl := (List.forall_mem_cons.mpr ⟨tw_702, (List.forall_mem_append.mpr ⟨(List.forall_mem_append.mpr ⟨(List.forall_mem_append.mpr ⟨(List.forall_mem_append.mpr ⟨(List.forall_mem_append.mpr ⟨dl_wsX8_tight_r1, (List.forall_mem_append.mpr ⟨dl_wsX8_tight_r2, (List.forall_mem_append.mpr ⟨dl_wsX8_tight_r3, (List.forall_mem_append.mpr ⟨dl_wsX8_tight_r4, (List.forall_mem_append.mpr ⟨dl_wsX8_tight_r5, dl_wsX8_tight_r6⟩)⟩)⟩)⟩)⟩), fu_wsX80⟩), fu_wsX20⟩), fu_wsX00⟩), fu_wsX40⟩)⟩)
set_option maxRecDepth 100000 in
theorem tw_701 : Cond.selects RX8 yX8_tight yX8_tight ∈ lw_tbl := List.mem_append_right _ (List.mem_append_right _ (List.mem_append_right _ (List.mem_append_left _ (List.mem_of_getElem? (i := 148) rfl))))
set_option maxRecDepth 100000 in
theorem tw_700 : Cond.instanceMethod yX8_tight ∈ lw_tbl := List.mem_append_right _ (List.mem_append_right _ (List.mem_append_right _ (List.mem_append_left _ (List.mem_of_getElem? (i := 147) rfl))))
set_option maxRecDepth 100000 in
theorem tw_699 : Cond.methodLink RL 81 yX8_tight ∈ lw_tbl := List.mem_append_right _ (List.mem_append_right _ (List.mem_append_right _ (List.mem_append_left _ (List.mem_of_getElem? (i := 146) rfl))))
set_option maxRecDepth 100000 in
theorem tw_1229 : Cond.code yX9_tight cX9_tight 4 (some .int) ∈ lw_tbl := List.mem_append_right _ (List.mem_append_right _ (List.mem_append_right _ (List.mem_append_right _ (List.mem_append_right _ (List.mem_append_left _ (List.mem_of_getElem? (i := 196) rfl))))))
set_option maxRecDepth 100000 in
theorem dl_wsX9_tight_r1 : ∀ w ∈ wsX9_tight_r1, w ∈ lw_tbl := (List.forall_mem_cons.mpr ⟨tw_931, (List.forall_mem_cons.mpr ⟨tw_1194, (List.forall_mem_cons.mpr ⟨tw_1196, (List.forall_mem_cons.mpr ⟨tw_57, (List.forall_mem_cons.mpr ⟨tw_83, (List.forall_mem_cons.mpr ⟨tw_1197, (List.forall_mem_cons.mpr ⟨tw_1057, (List.forall_mem_cons.mpr ⟨tw_1059, (List.forall_mem_cons.mpr ⟨tw_30, (List.forall_mem_cons.mpr ⟨tw_1060, (List.forall_mem_cons.mpr ⟨tw_907, (List.forall_mem_cons.mpr ⟨tw_1036, (List.forall_mem_cons.mpr ⟨tw_1038, (List.forall_mem_cons.mpr ⟨tw_28, (List.forall_mem_cons.mpr ⟨tw_1039, (List.forall_mem_cons.mpr ⟨tw_908, (List.forall_mem_cons.mpr ⟨tw_1061, (List.forall_mem_cons.mpr ⟨tw_1063, (List.forall_mem_cons.mpr ⟨tw_31, (List.forall_mem_cons.mpr ⟨tw_1064, (List.forall_mem_cons.mpr ⟨tw_930, (List.forall_mem_cons.mpr ⟨tw_932, (List.forall_mem_cons.mpr ⟨tw_1065, (List.forall_mem_cons.mpr ⟨tw_1067, (fun _ h => absurd h List.not_mem_nil)⟩)⟩)⟩)⟩)⟩)⟩)⟩)⟩)⟩)⟩)⟩)⟩)⟩)⟩)⟩)⟩)⟩)⟩)⟩)⟩)⟩)⟩)⟩)⟩)
set_option maxRecDepth 100000 in
theorem dl_wsX9_tight_r2 : ∀ w ∈ wsX9_tight_r2, w ∈ lw_tbl := (List.forall_mem_cons.mpr ⟨tw_32, (List.forall_mem_cons.mpr ⟨tw_1068, (List.forall_mem_cons.mpr ⟨tw_1069, (List.forall_mem_cons.mpr ⟨tw_1071, (List.forall_mem_cons.mpr ⟨tw_33, (List.forall_mem_cons.mpr ⟨tw_1072, (List.forall_mem_cons.mpr ⟨tw_933, (List.forall_mem_cons.mpr ⟨tw_1073, (List.forall_mem_cons.mpr ⟨tw_1075, (List.forall_mem_cons.mpr ⟨tw_34, (List.forall_mem_cons.mpr ⟨tw_1076, (List.forall_mem_cons.mpr ⟨tw_1077, (List.forall_mem_cons.mpr ⟨tw_1079, (List.forall_mem_cons.mpr ⟨tw_35, (List.forall_mem_cons.mpr ⟨tw_1080, (List.forall_mem_cons.mpr ⟨tw_1081, (List.forall_mem_cons.mpr ⟨tw_1083, (List.forall_mem_cons.mpr ⟨tw_36, (List.forall_mem_cons.mpr ⟨tw_1084, (List.forall_mem_cons.mpr ⟨tw_1202, (List.forall_mem_cons.mpr ⟨tw_1204, (List.forall_mem_cons.mpr ⟨tw_58, (List.forall_mem_cons.mpr ⟨tw_1205, (List.forall_mem_cons.mpr ⟨tw_1017, (fun _ h => absurd h List.not_mem_nil)⟩)⟩)⟩)⟩)⟩)⟩)⟩)⟩)⟩)⟩)⟩)⟩)⟩)⟩)⟩)⟩)⟩)⟩)⟩)⟩)⟩)⟩)⟩)⟩)
set_option maxRecDepth 100000 in
theorem dl_wsX9_tight_r3 : ∀ w ∈ wsX9_tight_r3, w ∈ lw_tbl := (List.forall_mem_cons.mpr ⟨tw_1018, (List.forall_mem_cons.mpr ⟨tw_1019, (List.forall_mem_cons.mpr ⟨tw_1032, (List.forall_mem_cons.mpr ⟨tw_1034, (List.forall_mem_cons.mpr ⟨tw_27, (List.forall_mem_cons.mpr ⟨tw_1035, (List.forall_mem_cons.mpr ⟨tw_1170, (List.forall_mem_cons.mpr ⟨tw_1172, (List.forall_mem_cons.mpr ⟨tw_54, (List.forall_mem_cons.mpr ⟨tw_1173, (fun _ h => absurd h List.not_mem_nil)⟩)⟩)⟩)⟩)⟩)⟩)⟩)⟩)⟩)⟩)
set_option maxRecDepth 100000 in
theorem dl_wsX9_tight : ∀ w ∈ wsX9_tight, w ∈ lw_tbl := (List.forall_mem_cons.mpr ⟨tw_1229, (List.forall_mem_append.mpr ⟨(List.forall_mem_append.mpr ⟨dl_wsX9_tight_r1, (List.forall_mem_append.mpr ⟨dl_wsX9_tight_r2, dl_wsX9_tight_r3⟩)⟩), fu_wsX90⟩)⟩)
set_option maxRecDepth 100000 in
theorem tw_1228 : Cond.selects RX9 yX9_tight yX9_tight ∈ lw_tbl := List.mem_append_right _ (List.mem_append_right _ (List.mem_append_right _ (List.mem_append_right _ (List.mem_append_right _ (List.mem_append_left _ (List.mem_of_getElem? (i := 195) rfl))))))
set_option maxRecDepth 100000 in
theorem tw_1227 : Cond.instanceMethod yX9_tight ∈ lw_tbl := List.mem_append_right _ (List.mem_append_right _ (List.mem_append_right _ (List.mem_append_right _ (List.mem_append_right _ (List.mem_append_left _ (List.mem_of_getElem? (i := 194) rfl))))))
set_option maxRecDepth 100000 in
theorem tw_1226 : Cond.methodLink RL 84 yX9_tight ∈ lw_tbl := List.mem_append_right _ (List.mem_append_right _ (List.mem_append_right _ (List.mem_append_right _ (List.mem_append_right _ (List.mem_append_left _ (List.mem_of_getElem? (i := 193) rfl))))))
set_option maxRecDepth 100000 in
theorem tw_709 : Cond.code yX8_two cX8_two 5 (some .int) ∈ lw_tbl := List.mem_append_right _ (List.mem_append_right _ (List.mem_append_right _ (List.mem_append_left _ (List.mem_of_getElem? (i := 156) rfl))))
set_option maxRecDepth 100000 in
theorem dl_wsX8_two_r1 : ∀ w ∈ wsX8_two_r1, w ∈ lw_tbl := (List.forall_mem_cons.mpr ⟨tw_296, (List.forall_mem_cons.mpr ⟨tw_381, (List.forall_mem_cons.mpr ⟨tw_383, (List.forall_mem_cons.mpr ⟨tw_1, (List.forall_mem_cons.mpr ⟨tw_74, (List.forall_mem_cons.mpr ⟨tw_384, (List.forall_mem_cons.mpr ⟨tw_291, (List.forall_mem_cons.mpr ⟨tw_163, (List.forall_mem_cons.mpr ⟨tw_231, (List.forall_mem_cons.mpr ⟨tw_385, (List.forall_mem_cons.mpr ⟨tw_386, (List.forall_mem_cons.mpr ⟨tw_387, (List.forall_mem_cons.mpr ⟨tw_80, (List.forall_mem_cons.mpr ⟨tw_388, (List.forall_mem_cons.mpr ⟨tw_226, (List.forall_mem_cons.mpr ⟨tw_225, (List.forall_mem_cons.mpr ⟨tw_232, (List.forall_mem_cons.mpr ⟨tw_230, (List.forall_mem_cons.mpr ⟨tw_389, (List.forall_mem_cons.mpr ⟨tw_390, (List.forall_mem_cons.mpr ⟨tw_391, (List.forall_mem_cons.mpr ⟨tw_76, (List.forall_mem_cons.mpr ⟨tw_392, (List.forall_mem_cons.mpr ⟨tw_126, (fun _ h => absurd h List.not_mem_nil)⟩)⟩)⟩)⟩)⟩)⟩)⟩)⟩)⟩)⟩)⟩)⟩)⟩)⟩)⟩)⟩)⟩)⟩)⟩)⟩)⟩)⟩)⟩)⟩)
set_option maxRecDepth 100000 in
theorem dl_wsX8_two_r2 : ∀ w ∈ wsX8_two_r2, w ∈ lw_tbl := (List.forall_mem_cons.mpr ⟨tw_393, (List.forall_mem_cons.mpr ⟨tw_353, (List.forall_mem_cons.mpr ⟨tw_354, (List.forall_mem_cons.mpr ⟨tw_355, (List.forall_mem_cons.mpr ⟨tw_351, (List.forall_mem_cons.mpr ⟨tw_327, (List.forall_mem_cons.mpr ⟨tw_328, (List.forall_mem_cons.mpr ⟨tw_329, (List.forall_mem_cons.mpr ⟨tw_131, (List.forall_mem_cons.mpr ⟨tw_394, (List.forall_mem_cons.mpr ⟨tw_341, (List.forall_mem_cons.mpr ⟨tw_342, (List.forall_mem_cons.mpr ⟨tw_343, (List.forall_mem_cons.mpr ⟨tw_344, (List.forall_mem_cons.mpr ⟨tw_346, (List.forall_mem_cons.mpr ⟨tw_345, (List.forall_mem_cons.mpr ⟨tw_84, (List.forall_mem_cons.mpr ⟨tw_395, (List.forall_mem_cons.mpr ⟨tw_396, (List.forall_mem_cons.mpr ⟨tw_397, (List.forall_mem_cons.mpr ⟨tw_398, (List.forall_mem_cons.mpr ⟨tw_399, (List.forall_mem_cons.mpr ⟨tw_400, (List.forall_mem_cons.mpr ⟨tw_401, (fun _ h => absurd h List.not_mem_nil)⟩)⟩)⟩)⟩)⟩)⟩)⟩)⟩)⟩)⟩)⟩)⟩)⟩)⟩)⟩)⟩)⟩)⟩)⟩)⟩)⟩)⟩)⟩)⟩)
set_option maxRecDepth 100000 in
theorem dl_wsX8_two_r3 : ∀ w ∈ wsX8_two_r3, w ∈ lw_tbl := (List.forall_mem_cons.mpr ⟨tw_402, (List.forall_mem_cons.mpr ⟨tw_403, (List.forall_mem_cons.mpr ⟨tw_405, (List.forall_mem_cons.mpr ⟨tw_2, (List.forall_mem_cons.mpr ⟨tw_406, (List.forall_mem_cons.mpr ⟨tw_128, (List.forall_mem_cons.mpr ⟨tw_407, (List.forall_mem_cons.mpr ⟨tw_409, (List.forall_mem_cons.mpr ⟨tw_3, (List.forall_mem_cons.mpr ⟨tw_410, (List.forall_mem_cons.mpr ⟨tw_227, (List.forall_mem_cons.mpr ⟨tw_411, (List.forall_mem_cons.mpr ⟨tw_412, (List.forall_mem_cons.mpr ⟨tw_414, (List.forall_mem_cons.mpr ⟨tw_4, (List.forall_mem_cons.mpr ⟨tw_415, (List.forall_mem_cons.mpr ⟨tw_228, (List.forall_mem_cons.mpr ⟨tw_416, (List.forall_mem_cons.mpr ⟨tw_418, (List.forall_mem_cons.mpr ⟨tw_5, (List.forall_mem_cons.mpr ⟨tw_419, (List.forall_mem_cons.mpr ⟨tw_420, (List.forall_mem_cons.mpr ⟨tw_422, (List.forall_mem_cons.mpr ⟨tw_6, (fun _ h => absurd h List.not_mem_nil)⟩)⟩)⟩)⟩)⟩)⟩)⟩)⟩)⟩)⟩)⟩)⟩)⟩)⟩)⟩)⟩)⟩)⟩)⟩)⟩)⟩)⟩)⟩)⟩)
set_option maxRecDepth 100000 in
theorem dl_wsX8_two_r4 : ∀ w ∈ wsX8_two_r4, w ∈ lw_tbl := (List.forall_mem_cons.mpr ⟨tw_423, (List.forall_mem_cons.mpr ⟨tw_424, (List.forall_mem_cons.mpr ⟨tw_373, (List.forall_mem_cons.mpr ⟨tw_85, (List.forall_mem_cons.mpr ⟨tw_374, (List.forall_mem_cons.mpr ⟨tw_130, (List.forall_mem_cons.mpr ⟨tw_376, (List.forall_mem_cons.mpr ⟨tw_115, (List.forall_mem_cons.mpr ⟨tw_77, (List.forall_mem_cons.mpr ⟨tw_116, (List.forall_mem_cons.mpr ⟨tw_375, (List.forall_mem_cons.mpr ⟨tw_425, (List.forall_mem_cons.mpr ⟨tw_427, (List.forall_mem_cons.mpr ⟨tw_7, (List.forall_mem_cons.mpr ⟨tw_428, (List.forall_mem_cons.mpr ⟨tw_429, (List.forall_mem_cons.mpr ⟨tw_431, (List.forall_mem_cons.mpr ⟨tw_8, (List.forall_mem_cons.mpr ⟨tw_432, (List.forall_mem_cons.mpr ⟨tw_433, (List.forall_mem_cons.mpr ⟨tw_435, (List.forall_mem_cons.mpr ⟨tw_9, (List.forall_mem_cons.mpr ⟨tw_436, (List.forall_mem_cons.mpr ⟨tw_437, (fun _ h => absurd h List.not_mem_nil)⟩)⟩)⟩)⟩)⟩)⟩)⟩)⟩)⟩)⟩)⟩)⟩)⟩)⟩)⟩)⟩)⟩)⟩)⟩)⟩)⟩)⟩)⟩)⟩)
set_option maxRecDepth 100000 in
theorem dl_wsX8_two_r5 : ∀ w ∈ wsX8_two_r5, w ∈ lw_tbl := (List.forall_mem_cons.mpr ⟨tw_438, (List.forall_mem_cons.mpr ⟨tw_439, (List.forall_mem_cons.mpr ⟨tw_440, (List.forall_mem_cons.mpr ⟨tw_442, (List.forall_mem_cons.mpr ⟨tw_10, (List.forall_mem_cons.mpr ⟨tw_443, (List.forall_mem_cons.mpr ⟨tw_229, (List.forall_mem_cons.mpr ⟨tw_444, (List.forall_mem_cons.mpr ⟨tw_445, (List.forall_mem_cons.mpr ⟨tw_446, (List.forall_mem_cons.mpr ⟨tw_447, (List.forall_mem_cons.mpr ⟨tw_453, (List.forall_mem_cons.mpr ⟨tw_448, (List.forall_mem_cons.mpr ⟨tw_449, (List.forall_mem_cons.mpr ⟨tw_450, (List.forall_mem_cons.mpr ⟨tw_451, (List.forall_mem_cons.mpr ⟨tw_452, (List.forall_mem_cons.mpr ⟨tw_361, (List.forall_mem_cons.mpr ⟨tw_362, (List.forall_mem_cons.mpr ⟨tw_363, (List.forall_mem_cons.mpr ⟨tw_454, (List.forall_mem_cons.mpr ⟨tw_455, (List.forall_mem_cons.mpr ⟨tw_456, (List.forall_mem_cons.mpr ⟨tw_457, (fun _ h => absurd h List.not_mem_nil)⟩)⟩)⟩)⟩)⟩)⟩)⟩)⟩)⟩)⟩)⟩)⟩)⟩)⟩)⟩)⟩)⟩)⟩)⟩)⟩)⟩)⟩)⟩)⟩)
set_option maxRecDepth 100000 in
theorem tw_718 : Cond.methodLink RX8 214 yX0_areBeside ∈ lw_tbl := List.mem_append_right _ (List.mem_append_right _ (List.mem_append_right _ (List.mem_append_left _ (List.mem_of_getElem? (i := 165) rfl))))
set_option maxRecDepth 100000 in
theorem tw_717 : Cond.methodLink RX0 119 Lib.Math.max.name ∈ lw_tbl := List.mem_append_right _ (List.mem_append_right _ (List.mem_append_right _ (List.mem_append_left _ (List.mem_of_getElem? (i := 164) rfl))))
set_option maxRecDepth 100000 in
theorem tw_716 : Cond.code Lib.Math.abs.name Lib.Math.abs.code 1 (some .int) ∈ lw_tbl := List.mem_append_right _ (List.mem_append_right _ (List.mem_append_right _ (List.mem_append_left _ (List.mem_of_getElem? (i := 163) rfl))))
set_option maxRecDepth 100000 in
theorem tw_715 : Cond.static Lib.Math.abs.name ∈ lw_tbl := List.mem_append_right _ (List.mem_append_right _ (List.mem_append_right _ (List.mem_append_left _ (List.mem_of_getElem? (i := 162) rfl))))
set_option maxRecDepth 100000 in
theorem tw_714 : Cond.methodLink RX0 113 Lib.Math.abs.name ∈ lw_tbl := List.mem_append_right _ (List.mem_append_right _ (List.mem_append_right _ (List.mem_append_left _ (List.mem_of_getElem? (i := 161) rfl))))
set_option maxRecDepth 100000 in
theorem tw_713 : Cond.code yX0_apart cX0_apart 5 (some .int) ∈ lw_tbl := List.mem_append_right _ (List.mem_append_right _ (List.mem_append_right _ (List.mem_append_left _ (List.mem_of_getElem? (i := 160) rfl))))
set_option maxRecDepth 100000 in
theorem tw_712 : Cond.selects RX0 yX0_apart yX0_apart ∈ lw_tbl := List.mem_append_right _ (List.mem_append_right _ (List.mem_append_right _ (List.mem_append_left _ (List.mem_of_getElem? (i := 159) rfl))))
set_option maxRecDepth 100000 in
theorem tw_711 : Cond.instanceMethod yX0_apart ∈ lw_tbl := List.mem_append_right _ (List.mem_append_right _ (List.mem_append_right _ (List.mem_append_left _ (List.mem_of_getElem? (i := 158) rfl))))
set_option maxRecDepth 100000 in
theorem tw_710 : Cond.methodLink RX8 211 yX0_apart ∈ lw_tbl := List.mem_append_right _ (List.mem_append_right _ (List.mem_append_right _ (List.mem_append_left _ (List.mem_of_getElem? (i := 157) rfl))))
set_option maxRecDepth 100000 in
theorem dl_wsX8_two_r6 : ∀ w ∈ wsX8_two_r6, w ∈ lw_tbl := (List.forall_mem_cons.mpr ⟨tw_710, (List.forall_mem_cons.mpr ⟨tw_711, (List.forall_mem_cons.mpr ⟨tw_712, (List.forall_mem_cons.mpr ⟨tw_713, (List.forall_mem_cons.mpr ⟨tw_714, (List.forall_mem_cons.mpr ⟨tw_715, (List.forall_mem_cons.mpr ⟨tw_716, (List.forall_mem_cons.mpr ⟨tw_717, (List.forall_mem_cons.mpr ⟨tw_718, (List.forall_mem_cons.mpr ⟨tw_690, (List.forall_mem_cons.mpr ⟨tw_691, (List.forall_mem_cons.mpr ⟨tw_692, (List.forall_mem_cons.mpr ⟨tw_693, (List.forall_mem_cons.mpr ⟨tw_672, (List.forall_mem_cons.mpr ⟨tw_673, (List.forall_mem_cons.mpr ⟨tw_674, (List.forall_mem_cons.mpr ⟨tw_694, (List.forall_mem_cons.mpr ⟨tw_634, (List.forall_mem_cons.mpr ⟨tw_635, (List.forall_mem_cons.mpr ⟨tw_636, (List.forall_mem_cons.mpr ⟨tw_637, (List.forall_mem_cons.mpr ⟨tw_638, (List.forall_mem_cons.mpr ⟨tw_577, (List.forall_mem_cons.mpr ⟨tw_578, (fun _ h => absurd h List.not_mem_nil)⟩)⟩)⟩)⟩)⟩)⟩)⟩)⟩)⟩)⟩)⟩)⟩)⟩)⟩)⟩)⟩)⟩)⟩)⟩)⟩)⟩)⟩)⟩)⟩)
set_option maxRecDepth 100000 in
theorem dl_wsX8_two_r7 : ∀ w ∈ wsX8_two_r7, w ∈ lw_tbl := (List.forall_mem_cons.mpr ⟨tw_579, (List.forall_mem_cons.mpr ⟨tw_671, (List.forall_mem_cons.mpr ⟨tw_675, (List.forall_mem_cons.mpr ⟨tw_676, (List.forall_mem_cons.mpr ⟨tw_677, (List.forall_mem_cons.mpr ⟨tw_678, (List.forall_mem_cons.mpr ⟨tw_679, (List.forall_mem_cons.mpr ⟨tw_680, (List.forall_mem_cons.mpr ⟨tw_86, (List.forall_mem_cons.mpr ⟨tw_681, (List.forall_mem_cons.mpr ⟨tw_682, (List.forall_mem_cons.mpr ⟨tw_683, (List.forall_mem_cons.mpr ⟨tw_684, (fun _ h => absurd h List.not_mem_nil)⟩)⟩)⟩)⟩)⟩)⟩)⟩)⟩)⟩)⟩)⟩)⟩)⟩)
set_option maxRecDepth 100000 in
theorem dl_wsX8_two : ∀ w ∈ wsX8_two, w ∈ lw_tbl := (List.forall_mem_cons.mpr ⟨tw_709, (List.forall_mem_append.mpr ⟨(List.forall_mem_append.mpr ⟨(List.forall_mem_append.mpr ⟨(List.forall_mem_append.mpr ⟨(List.forall_mem_append.mpr ⟨dl_wsX8_two_r1, (List.forall_mem_append.mpr ⟨dl_wsX8_two_r2, (List.forall_mem_append.mpr ⟨dl_wsX8_two_r3, (List.forall_mem_append.mpr ⟨dl_wsX8_two_r4, (List.forall_mem_append.mpr ⟨dl_wsX8_two_r5, (List.forall_mem_append.mpr ⟨dl_wsX8_two_r6, dl_wsX8_two_r7⟩)⟩)⟩)⟩)⟩)⟩), fu_wsX80⟩), fu_wsX20⟩), fu_wsX00⟩), fu_wsX40⟩)⟩)
set_option maxRecDepth 100000 in
theorem tw_708 : Cond.selects RX8 yX8_two yX8_two ∈ lw_tbl := List.mem_append_right _ (List.mem_append_right _ (List.mem_append_right _ (List.mem_append_left _ (List.mem_of_getElem? (i := 155) rfl))))
set_option maxRecDepth 100000 in
theorem tw_707 : Cond.instanceMethod yX8_two ∈ lw_tbl := List.mem_append_right _ (List.mem_append_right _ (List.mem_append_right _ (List.mem_append_left _ (List.mem_of_getElem? (i := 154) rfl))))
set_option maxRecDepth 100000 in
theorem tw_706 : Cond.methodLink RL 85 yX8_two ∈ lw_tbl := List.mem_append_right _ (List.mem_append_right _ (List.mem_append_right _ (List.mem_append_left _ (List.mem_of_getElem? (i := 153) rfl))))
set_option maxRecDepth 100000 in
theorem tw_1233 : Cond.code yX9_two cX9_two 7 (some .int) ∈ lw_tbl := List.mem_append_right _ (List.mem_append_right _ (List.mem_append_right _ (List.mem_append_right _ (List.mem_append_right _ (List.mem_append_left _ (List.mem_of_getElem? (i := 200) rfl))))))
set_option maxRecDepth 100000 in
theorem dl_wsX9_two_r1 : ∀ w ∈ wsX9_two_r1, w ∈ lw_tbl := (List.forall_mem_cons.mpr ⟨tw_907, (List.forall_mem_cons.mpr ⟨tw_931, (List.forall_mem_cons.mpr ⟨tw_1085, (List.forall_mem_cons.mpr ⟨tw_115, (List.forall_mem_cons.mpr ⟨tw_77, (List.forall_mem_cons.mpr ⟨tw_116, (List.forall_mem_cons.mpr ⟨tw_1194, (List.forall_mem_cons.mpr ⟨tw_1196, (List.forall_mem_cons.mpr ⟨tw_57, (List.forall_mem_cons.mpr ⟨tw_83, (List.forall_mem_cons.mpr ⟨tw_1197, (List.forall_mem_cons.mpr ⟨tw_1057, (List.forall_mem_cons.mpr ⟨tw_1059, (List.forall_mem_cons.mpr ⟨tw_30, (List.forall_mem_cons.mpr ⟨tw_1060, (List.forall_mem_cons.mpr ⟨tw_1036, (List.forall_mem_cons.mpr ⟨tw_1038, (List.forall_mem_cons.mpr ⟨tw_28, (List.forall_mem_cons.mpr ⟨tw_1039, (List.forall_mem_cons.mpr ⟨tw_908, (List.forall_mem_cons.mpr ⟨tw_1061, (List.forall_mem_cons.mpr ⟨tw_1063, (List.forall_mem_cons.mpr ⟨tw_31, (List.forall_mem_cons.mpr ⟨tw_1064, (fun _ h => absurd h List.not_mem_nil)⟩)⟩)⟩)⟩)⟩)⟩)⟩)⟩)⟩)⟩)⟩)⟩)⟩)⟩)⟩)⟩)⟩)⟩)⟩)⟩)⟩)⟩)⟩)⟩)
set_option maxRecDepth 100000 in
theorem dl_wsX9_two_r2 : ∀ w ∈ wsX9_two_r2, w ∈ lw_tbl := (List.forall_mem_cons.mpr ⟨tw_930, (List.forall_mem_cons.mpr ⟨tw_932, (List.forall_mem_cons.mpr ⟨tw_1065, (List.forall_mem_cons.mpr ⟨tw_1067, (List.forall_mem_cons.mpr ⟨tw_32, (List.forall_mem_cons.mpr ⟨tw_1068, (List.forall_mem_cons.mpr ⟨tw_1069, (List.forall_mem_cons.mpr ⟨tw_1071, (List.forall_mem_cons.mpr ⟨tw_33, (List.forall_mem_cons.mpr ⟨tw_1072, (List.forall_mem_cons.mpr ⟨tw_933, (List.forall_mem_cons.mpr ⟨tw_1073, (List.forall_mem_cons.mpr ⟨tw_1075, (List.forall_mem_cons.mpr ⟨tw_34, (List.forall_mem_cons.mpr ⟨tw_1076, (List.forall_mem_cons.mpr ⟨tw_1077, (List.forall_mem_cons.mpr ⟨tw_1079, (List.forall_mem_cons.mpr ⟨tw_35, (List.forall_mem_cons.mpr ⟨tw_1080, (List.forall_mem_cons.mpr ⟨tw_1081, (List.forall_mem_cons.mpr ⟨tw_1083, (List.forall_mem_cons.mpr ⟨tw_36, (List.forall_mem_cons.mpr ⟨tw_1084, (List.forall_mem_cons.mpr ⟨tw_1202, (fun _ h => absurd h List.not_mem_nil)⟩)⟩)⟩)⟩)⟩)⟩)⟩)⟩)⟩)⟩)⟩)⟩)⟩)⟩)⟩)⟩)⟩)⟩)⟩)⟩)⟩)⟩)⟩)⟩)
set_option maxRecDepth 100000 in
theorem dl_wsX9_two_r3 : ∀ w ∈ wsX9_two_r3, w ∈ lw_tbl := (List.forall_mem_cons.mpr ⟨tw_1204, (List.forall_mem_cons.mpr ⟨tw_58, (List.forall_mem_cons.mpr ⟨tw_1205, (List.forall_mem_cons.mpr ⟨tw_1017, (List.forall_mem_cons.mpr ⟨tw_1018, (List.forall_mem_cons.mpr ⟨tw_1019, (List.forall_mem_cons.mpr ⟨tw_1210, (List.forall_mem_cons.mpr ⟨tw_1212, (List.forall_mem_cons.mpr ⟨tw_59, (List.forall_mem_cons.mpr ⟨tw_1213, (List.forall_mem_cons.mpr ⟨tw_1170, (List.forall_mem_cons.mpr ⟨tw_1172, (List.forall_mem_cons.mpr ⟨tw_54, (List.forall_mem_cons.mpr ⟨tw_1173, (List.forall_mem_cons.mpr ⟨tw_1218, (List.forall_mem_cons.mpr ⟨tw_1220, (List.forall_mem_cons.mpr ⟨tw_61, (List.forall_mem_cons.mpr ⟨tw_1221, (List.forall_mem_cons.mpr ⟨tw_1222, (List.forall_mem_cons.mpr ⟨tw_1224, (List.forall_mem_cons.mpr ⟨tw_62, (List.forall_mem_cons.mpr ⟨tw_1225, (fun _ h => absurd h List.not_mem_nil)⟩)⟩)⟩)⟩)⟩)⟩)⟩)⟩)⟩)⟩)⟩)⟩)⟩)⟩)⟩)⟩)⟩)⟩)⟩)⟩)⟩)⟩)
set_option maxRecDepth 100000 in
theorem dl_wsX9_two : ∀ w ∈ wsX9_two, w ∈ lw_tbl := (List.forall_mem_cons.mpr ⟨tw_1233, (List.forall_mem_append.mpr ⟨(List.forall_mem_append.mpr ⟨dl_wsX9_two_r1, (List.forall_mem_append.mpr ⟨dl_wsX9_two_r2, dl_wsX9_two_r3⟩)⟩), fu_wsX90⟩)⟩)
set_option maxRecDepth 100000 in
theorem tw_1232 : Cond.selects RX9 yX9_two yX9_two ∈ lw_tbl := List.mem_append_right _ (List.mem_append_right _ (List.mem_append_right _ (List.mem_append_right _ (List.mem_append_right _ (List.mem_append_left _ (List.mem_of_getElem? (i := 199) rfl))))))
set_option maxRecDepth 100000 in
theorem tw_1231 : Cond.instanceMethod yX9_two ∈ lw_tbl := List.mem_append_right _ (List.mem_append_right _ (List.mem_append_right _ (List.mem_append_right _ (List.mem_append_right _ (List.mem_append_left _ (List.mem_of_getElem? (i := 198) rfl))))))
set_option maxRecDepth 100000 in
theorem tw_1230 : Cond.methodLink RL 88 yX9_two ∈ lw_tbl := List.mem_append_right _ (List.mem_append_right _ (List.mem_append_right _ (List.mem_append_right _ (List.mem_append_right _ (List.mem_append_left _ (List.mem_of_getElem? (i := 197) rfl))))))
set_option maxRecDepth 100000 in
theorem tw_722 : Cond.code yX8_eye cX8_eye 2 (some .int) ∈ lw_tbl := List.mem_append_right _ (List.mem_append_right _ (List.mem_append_right _ (List.mem_append_left _ (List.mem_of_getElem? (i := 169) rfl))))
set_option maxRecDepth 100000 in
theorem dl_wsX8_eye_r1 : ∀ w ∈ wsX8_eye_r1, w ∈ lw_tbl := (List.forall_mem_cons.mpr ⟨tw_296, (List.forall_mem_cons.mpr ⟨tw_291, (List.forall_mem_cons.mpr ⟨tw_163, (List.forall_mem_cons.mpr ⟨tw_231, (List.forall_mem_cons.mpr ⟨tw_385, (List.forall_mem_cons.mpr ⟨tw_386, (List.forall_mem_cons.mpr ⟨tw_387, (List.forall_mem_cons.mpr ⟨tw_80, (List.forall_mem_cons.mpr ⟨tw_388, (List.forall_mem_cons.mpr ⟨tw_226, (List.forall_mem_cons.mpr ⟨tw_225, (List.forall_mem_cons.mpr ⟨tw_232, (List.forall_mem_cons.mpr ⟨tw_230, (List.forall_mem_cons.mpr ⟨tw_389, (List.forall_mem_cons.mpr ⟨tw_390, (List.forall_mem_cons.mpr ⟨tw_391, (List.forall_mem_cons.mpr ⟨tw_76, (List.forall_mem_cons.mpr ⟨tw_392, (List.forall_mem_cons.mpr ⟨tw_126, (List.forall_mem_cons.mpr ⟨tw_393, (List.forall_mem_cons.mpr ⟨tw_353, (List.forall_mem_cons.mpr ⟨tw_354, (List.forall_mem_cons.mpr ⟨tw_355, (List.forall_mem_cons.mpr ⟨tw_351, (fun _ h => absurd h List.not_mem_nil)⟩)⟩)⟩)⟩)⟩)⟩)⟩)⟩)⟩)⟩)⟩)⟩)⟩)⟩)⟩)⟩)⟩)⟩)⟩)⟩)⟩)⟩)⟩)⟩)
set_option maxRecDepth 100000 in
theorem dl_wsX8_eye_r2 : ∀ w ∈ wsX8_eye_r2, w ∈ lw_tbl := (List.forall_mem_cons.mpr ⟨tw_327, (List.forall_mem_cons.mpr ⟨tw_328, (List.forall_mem_cons.mpr ⟨tw_329, (List.forall_mem_cons.mpr ⟨tw_131, (List.forall_mem_cons.mpr ⟨tw_394, (List.forall_mem_cons.mpr ⟨tw_341, (List.forall_mem_cons.mpr ⟨tw_342, (List.forall_mem_cons.mpr ⟨tw_343, (List.forall_mem_cons.mpr ⟨tw_344, (List.forall_mem_cons.mpr ⟨tw_346, (List.forall_mem_cons.mpr ⟨tw_345, (List.forall_mem_cons.mpr ⟨tw_84, (List.forall_mem_cons.mpr ⟨tw_395, (List.forall_mem_cons.mpr ⟨tw_396, (List.forall_mem_cons.mpr ⟨tw_397, (List.forall_mem_cons.mpr ⟨tw_398, (List.forall_mem_cons.mpr ⟨tw_399, (List.forall_mem_cons.mpr ⟨tw_400, (List.forall_mem_cons.mpr ⟨tw_401, (List.forall_mem_cons.mpr ⟨tw_402, (List.forall_mem_cons.mpr ⟨tw_403, (List.forall_mem_cons.mpr ⟨tw_405, (List.forall_mem_cons.mpr ⟨tw_2, (List.forall_mem_cons.mpr ⟨tw_406, (fun _ h => absurd h List.not_mem_nil)⟩)⟩)⟩)⟩)⟩)⟩)⟩)⟩)⟩)⟩)⟩)⟩)⟩)⟩)⟩)⟩)⟩)⟩)⟩)⟩)⟩)⟩)⟩)⟩)
set_option maxRecDepth 100000 in
theorem dl_wsX8_eye_r3 : ∀ w ∈ wsX8_eye_r3, w ∈ lw_tbl := (List.forall_mem_cons.mpr ⟨tw_128, (List.forall_mem_cons.mpr ⟨tw_407, (List.forall_mem_cons.mpr ⟨tw_409, (List.forall_mem_cons.mpr ⟨tw_3, (List.forall_mem_cons.mpr ⟨tw_410, (List.forall_mem_cons.mpr ⟨tw_227, (List.forall_mem_cons.mpr ⟨tw_411, (List.forall_mem_cons.mpr ⟨tw_412, (List.forall_mem_cons.mpr ⟨tw_414, (List.forall_mem_cons.mpr ⟨tw_4, (List.forall_mem_cons.mpr ⟨tw_415, (List.forall_mem_cons.mpr ⟨tw_228, (List.forall_mem_cons.mpr ⟨tw_416, (List.forall_mem_cons.mpr ⟨tw_418, (List.forall_mem_cons.mpr ⟨tw_5, (List.forall_mem_cons.mpr ⟨tw_419, (List.forall_mem_cons.mpr ⟨tw_420, (List.forall_mem_cons.mpr ⟨tw_422, (List.forall_mem_cons.mpr ⟨tw_6, (List.forall_mem_cons.mpr ⟨tw_423, (List.forall_mem_cons.mpr ⟨tw_424, (List.forall_mem_cons.mpr ⟨tw_373, (List.forall_mem_cons.mpr ⟨tw_85, (List.forall_mem_cons.mpr ⟨tw_374, (fun _ h => absurd h List.not_mem_nil)⟩)⟩)⟩)⟩)⟩)⟩)⟩)⟩)⟩)⟩)⟩)⟩)⟩)⟩)⟩)⟩)⟩)⟩)⟩)⟩)⟩)⟩)⟩)⟩)
set_option maxRecDepth 100000 in
theorem dl_wsX8_eye_r4 : ∀ w ∈ wsX8_eye_r4, w ∈ lw_tbl := (List.forall_mem_cons.mpr ⟨tw_130, (List.forall_mem_cons.mpr ⟨tw_376, (List.forall_mem_cons.mpr ⟨tw_115, (List.forall_mem_cons.mpr ⟨tw_77, (List.forall_mem_cons.mpr ⟨tw_116, (List.forall_mem_cons.mpr ⟨tw_375, (List.forall_mem_cons.mpr ⟨tw_425, (List.forall_mem_cons.mpr ⟨tw_427, (List.forall_mem_cons.mpr ⟨tw_7, (List.forall_mem_cons.mpr ⟨tw_428, (List.forall_mem_cons.mpr ⟨tw_429, (List.forall_mem_cons.mpr ⟨tw_431, (List.forall_mem_cons.mpr ⟨tw_8, (List.forall_mem_cons.mpr ⟨tw_432, (List.forall_mem_cons.mpr ⟨tw_433, (List.forall_mem_cons.mpr ⟨tw_435, (List.forall_mem_cons.mpr ⟨tw_9, (List.forall_mem_cons.mpr ⟨tw_436, (List.forall_mem_cons.mpr ⟨tw_437, (List.forall_mem_cons.mpr ⟨tw_438, (List.forall_mem_cons.mpr ⟨tw_439, (List.forall_mem_cons.mpr ⟨tw_440, (List.forall_mem_cons.mpr ⟨tw_442, (List.forall_mem_cons.mpr ⟨tw_10, (fun _ h => absurd h List.not_mem_nil)⟩)⟩)⟩)⟩)⟩)⟩)⟩)⟩)⟩)⟩)⟩)⟩)⟩)⟩)⟩)⟩)⟩)⟩)⟩)⟩)⟩)⟩)⟩)⟩)
set_option maxRecDepth 100000 in
theorem tw_726 : Cond.code yX0_eyeOf cX0_eyeOf 3 (some .int) ∈ lw_tbl := List.mem_append_right _ (List.mem_append_right _ (List.mem_append_right _ (List.mem_append_left _ (List.mem_of_getElem? (i := 173) rfl))))
set_option maxRecDepth 100000 in
theorem tw_725 : Cond.selects RX0 yX0_eyeOf yX0_eyeOf ∈ lw_tbl := List.mem_append_right _ (List.mem_append_right _ (List.mem_append_right _ (List.mem_append_left _ (List.mem_of_getElem? (i := 172) rfl))))
set_option maxRecDepth 100000 in
theorem tw_724 : Cond.instanceMethod yX0_eyeOf ∈ lw_tbl := List.mem_append_right _ (List.mem_append_right _ (List.mem_append_right _ (List.mem_append_left _ (List.mem_of_getElem? (i := 171) rfl))))
set_option maxRecDepth 100000 in
theorem tw_723 : Cond.methodLink RX8 217 yX0_eyeOf ∈ lw_tbl := List.mem_append_right _ (List.mem_append_right _ (List.mem_append_right _ (List.mem_append_left _ (List.mem_of_getElem? (i := 170) rfl))))
set_option maxRecDepth 100000 in
theorem dl_wsX8_eye_r5 : ∀ w ∈ wsX8_eye_r5, w ∈ lw_tbl := (List.forall_mem_cons.mpr ⟨tw_443, (List.forall_mem_cons.mpr ⟨tw_229, (List.forall_mem_cons.mpr ⟨tw_444, (List.forall_mem_cons.mpr ⟨tw_445, (List.forall_mem_cons.mpr ⟨tw_446, (List.forall_mem_cons.mpr ⟨tw_447, (List.forall_mem_cons.mpr ⟨tw_453, (List.forall_mem_cons.mpr ⟨tw_448, (List.forall_mem_cons.mpr ⟨tw_449, (List.forall_mem_cons.mpr ⟨tw_450, (List.forall_mem_cons.mpr ⟨tw_451, (List.forall_mem_cons.mpr ⟨tw_452, (List.forall_mem_cons.mpr ⟨tw_361, (List.forall_mem_cons.mpr ⟨tw_362, (List.forall_mem_cons.mpr ⟨tw_363, (List.forall_mem_cons.mpr ⟨tw_454, (List.forall_mem_cons.mpr ⟨tw_455, (List.forall_mem_cons.mpr ⟨tw_456, (List.forall_mem_cons.mpr ⟨tw_360, (List.forall_mem_cons.mpr ⟨tw_723, (List.forall_mem_cons.mpr ⟨tw_724, (List.forall_mem_cons.mpr ⟨tw_725, (List.forall_mem_cons.mpr ⟨tw_726, (fun _ h => absurd h List.not_mem_nil)⟩)⟩)⟩)⟩)⟩)⟩)⟩)⟩)⟩)⟩)⟩)⟩)⟩)⟩)⟩)⟩)⟩)⟩)⟩)⟩)⟩)⟩)⟩)
set_option maxRecDepth 100000 in
theorem dl_wsX8_eye : ∀ w ∈ wsX8_eye, w ∈ lw_tbl := (List.forall_mem_cons.mpr ⟨tw_722, (List.forall_mem_append.mpr ⟨(List.forall_mem_append.mpr ⟨(List.forall_mem_append.mpr ⟨(List.forall_mem_append.mpr ⟨(List.forall_mem_append.mpr ⟨dl_wsX8_eye_r1, (List.forall_mem_append.mpr ⟨dl_wsX8_eye_r2, (List.forall_mem_append.mpr ⟨dl_wsX8_eye_r3, (List.forall_mem_append.mpr ⟨dl_wsX8_eye_r4, dl_wsX8_eye_r5⟩)⟩)⟩)⟩), fu_wsX80⟩), fu_wsX20⟩), fu_wsX00⟩), fu_wsX40⟩)⟩)
set_option maxRecDepth 100000 in
theorem tw_721 : Cond.selects RX8 yX8_eye yX8_eye ∈ lw_tbl := List.mem_append_right _ (List.mem_append_right _ (List.mem_append_right _ (List.mem_append_left _ (List.mem_of_getElem? (i := 168) rfl))))
set_option maxRecDepth 100000 in
theorem tw_720 : Cond.instanceMethod yX8_eye ∈ lw_tbl := List.mem_append_right _ (List.mem_append_right _ (List.mem_append_right _ (List.mem_append_left _ (List.mem_of_getElem? (i := 167) rfl))))
set_option maxRecDepth 100000 in
theorem tw_719 : Cond.methodLink RL 89 yX8_eye ∈ lw_tbl := List.mem_append_right _ (List.mem_append_right _ (List.mem_append_right _ (List.mem_append_left _ (List.mem_of_getElem? (i := 166) rfl))))
set_option maxRecDepth 100000 in
theorem tw_1237 : Cond.code yX9_eye cX9_eye 3 (some .int) ∈ lw_tbl := List.mem_append_right _ (List.mem_append_right _ (List.mem_append_right _ (List.mem_append_right _ (List.mem_append_right _ (List.mem_append_left _ (List.mem_of_getElem? (i := 204) rfl))))))
set_option maxRecDepth 100000 in
theorem dl_wsX9_eye_r1 : ∀ w ∈ wsX9_eye_r1, w ∈ lw_tbl := (List.forall_mem_cons.mpr ⟨tw_907, (List.forall_mem_cons.mpr ⟨tw_933, (List.forall_mem_cons.mpr ⟨tw_1194, (List.forall_mem_cons.mpr ⟨tw_1196, (List.forall_mem_cons.mpr ⟨tw_57, (List.forall_mem_cons.mpr ⟨tw_83, (List.forall_mem_cons.mpr ⟨tw_1197, (List.forall_mem_cons.mpr ⟨tw_1057, (List.forall_mem_cons.mpr ⟨tw_1059, (List.forall_mem_cons.mpr ⟨tw_30, (List.forall_mem_cons.mpr ⟨tw_1060, (List.forall_mem_cons.mpr ⟨tw_1036, (List.forall_mem_cons.mpr ⟨tw_1038, (List.forall_mem_cons.mpr ⟨tw_28, (List.forall_mem_cons.mpr ⟨tw_1039, (List.forall_mem_cons.mpr ⟨tw_908, (List.forall_mem_cons.mpr ⟨tw_1061, (List.forall_mem_cons.mpr ⟨tw_1063, (List.forall_mem_cons.mpr ⟨tw_31, (List.forall_mem_cons.mpr ⟨tw_1064, (List.forall_mem_cons.mpr ⟨tw_930, (List.forall_mem_cons.mpr ⟨tw_932, (List.forall_mem_cons.mpr ⟨tw_1065, (List.forall_mem_cons.mpr ⟨tw_1067, (fun _ h => absurd h List.not_mem_nil)⟩)⟩)⟩)⟩)⟩)⟩)⟩)⟩)⟩)⟩)⟩)⟩)⟩)⟩)⟩)⟩)⟩)⟩)⟩)⟩)⟩)⟩)⟩)⟩)
set_option maxRecDepth 100000 in
theorem dl_wsX9_eye_r2 : ∀ w ∈ wsX9_eye_r2, w ∈ lw_tbl := (List.forall_mem_cons.mpr ⟨tw_32, (List.forall_mem_cons.mpr ⟨tw_1068, (List.forall_mem_cons.mpr ⟨tw_1069, (List.forall_mem_cons.mpr ⟨tw_1071, (List.forall_mem_cons.mpr ⟨tw_33, (List.forall_mem_cons.mpr ⟨tw_1072, (List.forall_mem_cons.mpr ⟨tw_1073, (List.forall_mem_cons.mpr ⟨tw_1075, (List.forall_mem_cons.mpr ⟨tw_34, (List.forall_mem_cons.mpr ⟨tw_1076, (List.forall_mem_cons.mpr ⟨tw_1077, (List.forall_mem_cons.mpr ⟨tw_1079, (List.forall_mem_cons.mpr ⟨tw_35, (List.forall_mem_cons.mpr ⟨tw_1080, (List.forall_mem_cons.mpr ⟨tw_931, (List.forall_mem_cons.mpr ⟨tw_1081, (List.forall_mem_cons.mpr ⟨tw_1083, (List.forall_mem_cons.mpr ⟨tw_36, (List.forall_mem_cons.mpr ⟨tw_1084, (List.forall_mem_cons.mpr ⟨tw_1032, (List.forall_mem_cons.mpr ⟨tw_1034, (List.forall_mem_cons.mpr ⟨tw_27, (List.forall_mem_cons.mpr ⟨tw_1035, (List.forall_mem_cons.mpr ⟨tw_1017, (fun _ h => absurd h List.not_mem_nil)⟩)⟩)⟩)⟩)⟩)⟩)⟩)⟩)⟩)⟩)⟩)⟩)⟩)⟩)⟩)⟩)⟩)⟩)⟩)⟩)⟩)⟩)⟩)⟩)
set_option maxRecDepth 100000 in
theorem dl_wsX9_eye_r3 : ∀ w ∈ wsX9_eye_r3, w ∈ lw_tbl := (List.forall_mem_cons.mpr ⟨tw_1018, (List.forall_mem_cons.mpr ⟨tw_1019, (fun _ h => absurd h List.not_mem_nil)⟩)⟩)
set_option maxRecDepth 100000 in
theorem dl_wsX9_eye : ∀ w ∈ wsX9_eye, w ∈ lw_tbl := (List.forall_mem_cons.mpr ⟨tw_1237, (List.forall_mem_append.mpr ⟨(List.forall_mem_append.mpr ⟨dl_wsX9_eye_r1, (List.forall_mem_append.mpr ⟨dl_wsX9_eye_r2, dl_wsX9_eye_r3⟩)⟩), fu_wsX90⟩)⟩)
set_option maxRecDepth 100000 in
theorem tw_1236 : Cond.selects RX9 yX9_eye yX9_eye ∈ lw_tbl := List.mem_append_right _ (List.mem_append_right _ (List.mem_append_right _ (List.mem_append_right _ (List.mem_append_right _ (List.mem_append_left _ (List.mem_of_getElem? (i := 203) rfl))))))
set_option maxRecDepth 100000 in
theorem tw_1235 : Cond.instanceMethod yX9_eye ∈ lw_tbl := List.mem_append_right _ (List.mem_append_right _ (List.mem_append_right _ (List.mem_append_right _ (List.mem_append_right _ (List.mem_append_left _ (List.mem_of_getElem? (i := 202) rfl))))))
set_option maxRecDepth 100000 in
theorem tw_1234 : Cond.methodLink RL 92 yX9_eye ∈ lw_tbl := List.mem_append_right _ (List.mem_append_right _ (List.mem_append_right _ (List.mem_append_right _ (List.mem_append_right _ (List.mem_append_left _ (List.mem_of_getElem? (i := 201) rfl))))))
set_option maxRecDepth 100000 in
theorem tw_730 : Cond.code yX8_weight cX8_weight 2 (some .int) ∈ lw_tbl := List.mem_append_right _ (List.mem_append_right _ (List.mem_append_right _ (List.mem_append_left _ (List.mem_of_getElem? (i := 177) rfl))))
set_option maxRecDepth 100000 in
theorem tw_735 : Cond.methodLink RX8 223 yX4_weightOf ∈ lw_tbl := List.mem_append_right _ (List.mem_append_right _ (List.mem_append_right _ (List.mem_append_left _ (List.mem_of_getElem? (i := 182) rfl))))
set_option maxRecDepth 100000 in
theorem tw_734 : Cond.code yX4_isSplit cX4_isSplit 2 (some .boolean) ∈ lw_tbl := List.mem_append_right _ (List.mem_append_right _ (List.mem_append_right _ (List.mem_append_left _ (List.mem_of_getElem? (i := 181) rfl))))
set_option maxRecDepth 100000 in
theorem tw_733 : Cond.selects RX4 yX4_isSplit yX4_isSplit ∈ lw_tbl := List.mem_append_right _ (List.mem_append_right _ (List.mem_append_right _ (List.mem_append_left _ (List.mem_of_getElem? (i := 180) rfl))))
set_option maxRecDepth 100000 in
theorem tw_732 : Cond.instanceMethod yX4_isSplit ∈ lw_tbl := List.mem_append_right _ (List.mem_append_right _ (List.mem_append_right _ (List.mem_append_left _ (List.mem_of_getElem? (i := 179) rfl))))
set_option maxRecDepth 100000 in
theorem tw_731 : Cond.methodLink RX8 220 yX4_isSplit ∈ lw_tbl := List.mem_append_right _ (List.mem_append_right _ (List.mem_append_right _ (List.mem_append_left _ (List.mem_of_getElem? (i := 178) rfl))))
set_option maxRecDepth 100000 in
theorem dl_wsX8_weight_r1 : ∀ w ∈ wsX8_weight_r1, w ∈ lw_tbl := (List.forall_mem_cons.mpr ⟨tw_291, (List.forall_mem_cons.mpr ⟨tw_163, (List.forall_mem_cons.mpr ⟨tw_731, (List.forall_mem_cons.mpr ⟨tw_732, (List.forall_mem_cons.mpr ⟨tw_733, (List.forall_mem_cons.mpr ⟨tw_76, (List.forall_mem_cons.mpr ⟨tw_734, (List.forall_mem_cons.mpr ⟨tw_126, (List.forall_mem_cons.mpr ⟨tw_735, (List.forall_mem_cons.mpr ⟨tw_553, (List.forall_mem_cons.mpr ⟨tw_554, (List.forall_mem_cons.mpr ⟨tw_555, (List.forall_mem_cons.mpr ⟨tw_111, (List.forall_mem_cons.mpr ⟨tw_112, (List.forall_mem_cons.mpr ⟨tw_77, (List.forall_mem_cons.mpr ⟨tw_113, (List.forall_mem_cons.mpr ⟨tw_556, (List.forall_mem_cons.mpr ⟨tw_558, (List.forall_mem_cons.mpr ⟨tw_19, (List.forall_mem_cons.mpr ⟨tw_559, (List.forall_mem_cons.mpr ⟨tw_114, (List.forall_mem_cons.mpr ⟨tw_115, (List.forall_mem_cons.mpr ⟨tw_116, (List.forall_mem_cons.mpr ⟨tw_351, (fun _ h => absurd h List.not_mem_nil)⟩)⟩)⟩)⟩)⟩)⟩)⟩)⟩)⟩)⟩)⟩)⟩)⟩)⟩)⟩)⟩)⟩)⟩)⟩)⟩)⟩)⟩)⟩)⟩)
set_option maxRecDepth 100000 in
theorem dl_wsX8_weight_r2 : ∀ w ∈ wsX8_weight_r2, w ∈ lw_tbl := (List.forall_mem_cons.mpr ⟨tw_327, (List.forall_mem_cons.mpr ⟨tw_328, (List.forall_mem_cons.mpr ⟨tw_329, (List.forall_mem_cons.mpr ⟨tw_131, (fun _ h => absurd h List.not_mem_nil)⟩)⟩)⟩)⟩)
set_option maxRecDepth 100000 in
theorem dl_wsX8_weight : ∀ w ∈ wsX8_weight, w ∈ lw_tbl := (List.forall_mem_cons.mpr ⟨tw_730, (List.forall_mem_append.mpr ⟨(List.forall_mem_append.mpr ⟨(List.forall_mem_append.mpr ⟨(List.forall_mem_append.mpr ⟨dl_wsX8_weight_r1, dl_wsX8_weight_r2⟩), fu_wsX80⟩), fu_wsX20⟩), fu_wsX40⟩)⟩)
set_option maxRecDepth 100000 in
theorem tw_729 : Cond.selects RX8 yX8_weight yX8_weight ∈ lw_tbl := List.mem_append_right _ (List.mem_append_right _ (List.mem_append_right _ (List.mem_append_left _ (List.mem_of_getElem? (i := 176) rfl))))
set_option maxRecDepth 100000 in
theorem tw_728 : Cond.instanceMethod yX8_weight ∈ lw_tbl := List.mem_append_right _ (List.mem_append_right _ (List.mem_append_right _ (List.mem_append_left _ (List.mem_of_getElem? (i := 175) rfl))))
set_option maxRecDepth 100000 in
theorem tw_727 : Cond.methodLink RL 93 yX8_weight ∈ lw_tbl := List.mem_append_right _ (List.mem_append_right _ (List.mem_append_right _ (List.mem_append_left _ (List.mem_of_getElem? (i := 174) rfl))))
set_option maxRecDepth 100000 in
theorem tw_1241 : Cond.code yX9_weight cX9_weight 2 (some .int) ∈ lw_tbl := List.mem_append_right _ (List.mem_append_right _ (List.mem_append_right _ (List.mem_append_right _ (List.mem_append_right _ (List.mem_append_left _ (List.mem_of_getElem? (i := 208) rfl))))))
set_option maxRecDepth 100000 in
theorem dl_wsX9_weight_r1 : ∀ w ∈ wsX9_weight_r1, w ∈ lw_tbl := (List.forall_mem_cons.mpr ⟨tw_1106, (List.forall_mem_cons.mpr ⟨tw_1108, (List.forall_mem_cons.mpr ⟨tw_40, (List.forall_mem_cons.mpr ⟨tw_83, (List.forall_mem_cons.mpr ⟨tw_1109, (List.forall_mem_cons.mpr ⟨tw_907, (List.forall_mem_cons.mpr ⟨tw_1017, (List.forall_mem_cons.mpr ⟨tw_1018, (List.forall_mem_cons.mpr ⟨tw_1019, (List.forall_mem_cons.mpr ⟨tw_1110, (List.forall_mem_cons.mpr ⟨tw_1112, (List.forall_mem_cons.mpr ⟨tw_41, (List.forall_mem_cons.mpr ⟨tw_1113, (List.forall_mem_cons.mpr ⟨tw_1085, (List.forall_mem_cons.mpr ⟨tw_115, (List.forall_mem_cons.mpr ⟨tw_77, (List.forall_mem_cons.mpr ⟨tw_116, (List.forall_mem_cons.mpr ⟨tw_1048, (List.forall_mem_cons.mpr ⟨tw_112, (List.forall_mem_cons.mpr ⟨tw_113, (List.forall_mem_cons.mpr ⟨tw_1114, (List.forall_mem_cons.mpr ⟨tw_1116, (List.forall_mem_cons.mpr ⟨tw_42, (List.forall_mem_cons.mpr ⟨tw_1117, (fun _ h => absurd h List.not_mem_nil)⟩)⟩)⟩)⟩)⟩)⟩)⟩)⟩)⟩)⟩)⟩)⟩)⟩)⟩)⟩)⟩)⟩)⟩)⟩)⟩)⟩)⟩)⟩)⟩)
set_option maxRecDepth 100000 in
theorem dl_wsX9_weight_r2 : ∀ w ∈ wsX9_weight_r2, w ∈ lw_tbl := (List.forall_mem_cons.mpr ⟨tw_1036, (List.forall_mem_cons.mpr ⟨tw_1038, (List.forall_mem_cons.mpr ⟨tw_28, (List.forall_mem_cons.mpr ⟨tw_1039, (List.forall_mem_cons.mpr ⟨tw_908, (fun _ h => absurd h List.not_mem_nil)⟩)⟩)⟩)⟩)⟩)
set_option maxRecDepth 100000 in
theorem dl_wsX9_weight : ∀ w ∈ wsX9_weight, w ∈ lw_tbl := (List.forall_mem_cons.mpr ⟨tw_1241, (List.forall_mem_append.mpr ⟨(List.forall_mem_append.mpr ⟨dl_wsX9_weight_r1, dl_wsX9_weight_r2⟩), fu_wsX90⟩)⟩)
set_option maxRecDepth 100000 in
theorem tw_1240 : Cond.selects RX9 yX9_weight yX9_weight ∈ lw_tbl := List.mem_append_right _ (List.mem_append_right _ (List.mem_append_right _ (List.mem_append_right _ (List.mem_append_right _ (List.mem_append_left _ (List.mem_of_getElem? (i := 207) rfl))))))
set_option maxRecDepth 100000 in
theorem tw_1239 : Cond.instanceMethod yX9_weight ∈ lw_tbl := List.mem_append_right _ (List.mem_append_right _ (List.mem_append_right _ (List.mem_append_right _ (List.mem_append_right _ (List.mem_append_left _ (List.mem_of_getElem? (i := 206) rfl))))))
set_option maxRecDepth 100000 in
theorem tw_1238 : Cond.methodLink RL 96 yX9_weight ∈ lw_tbl := List.mem_append_right _ (List.mem_append_right _ (List.mem_append_right _ (List.mem_append_right _ (List.mem_append_right _ (List.mem_append_left _ (List.mem_of_getElem? (i := 205) rfl))))))
set_option maxRecDepth 100000 in
theorem tw_739 : Cond.code yX8_split cX8_split 3 (some .int) ∈ lw_tbl := List.mem_append_right _ (List.mem_append_right _ (List.mem_append_right _ (List.mem_append_left _ (List.mem_of_getElem? (i := 186) rfl))))
set_option maxRecDepth 100000 in
theorem tw_203 : Cond.fieldLink RX8 229 "TightHulls$Splits" "weights" "[I" ∈ lw_tbl := List.mem_append_right _ (List.mem_append_left _ (List.mem_of_getElem? (i := 130) rfl))
set_option maxRecDepth 100000 in
theorem tw_201 : Cond.fieldLink RX8 226 "TightHulls$Splits" "bits" "[I" ∈ lw_tbl := List.mem_append_right _ (List.mem_append_left _ (List.mem_of_getElem? (i := 128) rfl))
set_option maxRecDepth 100000 in
theorem dl_wsX8_split_r1 : ∀ w ∈ wsX8_split_r1, w ∈ lw_tbl := (List.forall_mem_cons.mpr ⟨tw_295, (List.forall_mem_cons.mpr ⟨tw_291, (List.forall_mem_cons.mpr ⟨tw_163, (List.forall_mem_cons.mpr ⟨tw_205, (List.forall_mem_cons.mpr ⟨tw_201, (List.forall_mem_cons.mpr ⟨tw_203, (List.forall_mem_cons.mpr ⟨tw_546, (List.forall_mem_cons.mpr ⟨tw_547, (List.forall_mem_cons.mpr ⟨tw_548, (List.forall_mem_cons.mpr ⟨tw_79, (List.forall_mem_cons.mpr ⟨tw_549, (List.forall_mem_cons.mpr ⟨tw_199, (List.forall_mem_cons.mpr ⟨tw_198, (List.forall_mem_cons.mpr ⟨tw_204, (List.forall_mem_cons.mpr ⟨tw_127, (List.forall_mem_cons.mpr ⟨tw_550, (List.forall_mem_cons.mpr ⟨tw_390, (List.forall_mem_cons.mpr ⟨tw_391, (List.forall_mem_cons.mpr ⟨tw_76, (List.forall_mem_cons.mpr ⟨tw_392, (List.forall_mem_cons.mpr ⟨tw_126, (List.forall_mem_cons.mpr ⟨tw_393, (List.forall_mem_cons.mpr ⟨tw_353, (List.forall_mem_cons.mpr ⟨tw_354, (fun _ h => absurd h List.not_mem_nil)⟩)⟩)⟩)⟩)⟩)⟩)⟩)⟩)⟩)⟩)⟩)⟩)⟩)⟩)⟩)⟩)⟩)⟩)⟩)⟩)⟩)⟩)⟩)⟩)
set_option maxRecDepth 100000 in
theorem dl_wsX8_split_r2 : ∀ w ∈ wsX8_split_r2, w ∈ lw_tbl := (List.forall_mem_cons.mpr ⟨tw_355, (List.forall_mem_cons.mpr ⟨tw_351, (List.forall_mem_cons.mpr ⟨tw_327, (List.forall_mem_cons.mpr ⟨tw_328, (List.forall_mem_cons.mpr ⟨tw_329, (List.forall_mem_cons.mpr ⟨tw_131, (List.forall_mem_cons.mpr ⟨tw_551, (List.forall_mem_cons.mpr ⟨tw_341, (List.forall_mem_cons.mpr ⟨tw_342, (List.forall_mem_cons.mpr ⟨tw_343, (List.forall_mem_cons.mpr ⟨tw_344, (List.forall_mem_cons.mpr ⟨tw_346, (List.forall_mem_cons.mpr ⟨tw_345, (List.forall_mem_cons.mpr ⟨tw_84, (List.forall_mem_cons.mpr ⟨tw_552, (List.forall_mem_cons.mpr ⟨tw_553, (List.forall_mem_cons.mpr ⟨tw_554, (List.forall_mem_cons.mpr ⟨tw_555, (List.forall_mem_cons.mpr ⟨tw_111, (List.forall_mem_cons.mpr ⟨tw_112, (List.forall_mem_cons.mpr ⟨tw_77, (List.forall_mem_cons.mpr ⟨tw_113, (List.forall_mem_cons.mpr ⟨tw_556, (List.forall_mem_cons.mpr ⟨tw_558, (fun _ h => absurd h List.not_mem_nil)⟩)⟩)⟩)⟩)⟩)⟩)⟩)⟩)⟩)⟩)⟩)⟩)⟩)⟩)⟩)⟩)⟩)⟩)⟩)⟩)⟩)⟩)⟩)⟩)
set_option maxRecDepth 100000 in
theorem dl_wsX8_split_r3 : ∀ w ∈ wsX8_split_r3, w ∈ lw_tbl := (List.forall_mem_cons.mpr ⟨tw_19, (List.forall_mem_cons.mpr ⟨tw_559, (List.forall_mem_cons.mpr ⟨tw_114, (List.forall_mem_cons.mpr ⟨tw_115, (List.forall_mem_cons.mpr ⟨tw_116, (List.forall_mem_cons.mpr ⟨tw_560, (List.forall_mem_cons.mpr ⟨tw_562, (List.forall_mem_cons.mpr ⟨tw_20, (List.forall_mem_cons.mpr ⟨tw_563, (List.forall_mem_cons.mpr ⟨tw_202, (List.forall_mem_cons.mpr ⟨tw_200, (fun _ h => absurd h List.not_mem_nil)⟩)⟩)⟩)⟩)⟩)⟩)⟩)⟩)⟩)⟩)⟩)
set_option maxRecDepth 100000 in
theorem dl_wsX8_split : ∀ w ∈ wsX8_split, w ∈ lw_tbl := (List.forall_mem_cons.mpr ⟨tw_739, (List.forall_mem_append.mpr ⟨(List.forall_mem_append.mpr ⟨(List.forall_mem_append.mpr ⟨(List.forall_mem_append.mpr ⟨(List.forall_mem_append.mpr ⟨dl_wsX8_split_r1, (List.forall_mem_append.mpr ⟨dl_wsX8_split_r2, dl_wsX8_split_r3⟩)⟩), fu_wsX80⟩), fu_wsX20⟩), fu_wsX30⟩), fu_wsX40⟩)⟩)
set_option maxRecDepth 100000 in
theorem tw_738 : Cond.selects RX8 yX8_split yX8_split ∈ lw_tbl := List.mem_append_right _ (List.mem_append_right _ (List.mem_append_right _ (List.mem_append_left _ (List.mem_of_getElem? (i := 185) rfl))))
set_option maxRecDepth 100000 in
theorem tw_737 : Cond.instanceMethod yX8_split ∈ lw_tbl := List.mem_append_right _ (List.mem_append_right _ (List.mem_append_right _ (List.mem_append_left _ (List.mem_of_getElem? (i := 184) rfl))))
set_option maxRecDepth 100000 in
theorem tw_736 : Cond.methodLink RL 97 yX8_split ∈ lw_tbl := List.mem_append_right _ (List.mem_append_right _ (List.mem_append_right _ (List.mem_append_left _ (List.mem_of_getElem? (i := 183) rfl))))
set_option maxRecDepth 100000 in
theorem tw_1245 : Cond.code yX9_split cX9_split 4 (some .int) ∈ lw_tbl := List.mem_append_right _ (List.mem_append_right _ (List.mem_append_right _ (List.mem_append_right _ (List.mem_append_right _ (List.mem_append_left _ (List.mem_of_getElem? (i := 212) rfl))))))
set_option maxRecDepth 100000 in
theorem dl_wsX9_split_r1 : ∀ w ∈ wsX9_split_r1, w ∈ lw_tbl := (List.forall_mem_cons.mpr ⟨tw_1017, (List.forall_mem_cons.mpr ⟨tw_1018, (List.forall_mem_cons.mpr ⟨tw_83, (List.forall_mem_cons.mpr ⟨tw_1019, (List.forall_mem_cons.mpr ⟨tw_1106, (List.forall_mem_cons.mpr ⟨tw_1108, (List.forall_mem_cons.mpr ⟨tw_40, (List.forall_mem_cons.mpr ⟨tw_1109, (List.forall_mem_cons.mpr ⟨tw_907, (List.forall_mem_cons.mpr ⟨tw_1110, (List.forall_mem_cons.mpr ⟨tw_1112, (List.forall_mem_cons.mpr ⟨tw_41, (List.forall_mem_cons.mpr ⟨tw_1113, (List.forall_mem_cons.mpr ⟨tw_1085, (List.forall_mem_cons.mpr ⟨tw_115, (List.forall_mem_cons.mpr ⟨tw_77, (List.forall_mem_cons.mpr ⟨tw_116, (List.forall_mem_cons.mpr ⟨tw_1048, (List.forall_mem_cons.mpr ⟨tw_112, (List.forall_mem_cons.mpr ⟨tw_113, (List.forall_mem_cons.mpr ⟨tw_1114, (List.forall_mem_cons.mpr ⟨tw_1116, (List.forall_mem_cons.mpr ⟨tw_42, (List.forall_mem_cons.mpr ⟨tw_1117, (fun _ h => absurd h List.not_mem_nil)⟩)⟩)⟩)⟩)⟩)⟩)⟩)⟩)⟩)⟩)⟩)⟩)⟩)⟩)⟩)⟩)⟩)⟩)⟩)⟩)⟩)⟩)⟩)⟩)
set_option maxRecDepth 100000 in
theorem tw_1249 : Cond.code yX9_aheadOf cX9_aheadOf 5 (some .int) ∈ lw_tbl := List.mem_append_right _ (List.mem_append_right _ (List.mem_append_right _ (List.mem_append_right _ (List.mem_append_right _ (List.mem_append_left _ (List.mem_of_getElem? (i := 216) rfl))))))
set_option maxRecDepth 100000 in
theorem tw_63 : Cond.selects RX9 yX9_aheadOf yX9_aheadOf ∈ lw_tbl := List.mem_append_left _ (List.mem_of_getElem? (i := 63) rfl)
set_option maxRecDepth 100000 in
theorem tw_1248 : Cond.instanceMethod yX9_aheadOf ∈ lw_tbl := List.mem_append_right _ (List.mem_append_right _ (List.mem_append_right _ (List.mem_append_right _ (List.mem_append_right _ (List.mem_append_left _ (List.mem_of_getElem? (i := 215) rfl))))))
set_option maxRecDepth 100000 in
theorem tw_1246 : Cond.methodLink RX9 236 yX9_aheadOf ∈ lw_tbl := List.mem_append_right _ (List.mem_append_right _ (List.mem_append_right _ (List.mem_append_right _ (List.mem_append_right _ (List.mem_append_left _ (List.mem_of_getElem? (i := 213) rfl))))))
set_option maxRecDepth 100000 in
theorem dl_wsX9_split_r2 : ∀ w ∈ wsX9_split_r2, w ∈ lw_tbl := (List.forall_mem_cons.mpr ⟨tw_1036, (List.forall_mem_cons.mpr ⟨tw_1038, (List.forall_mem_cons.mpr ⟨tw_28, (List.forall_mem_cons.mpr ⟨tw_1039, (List.forall_mem_cons.mpr ⟨tw_908, (List.forall_mem_cons.mpr ⟨tw_1246, (List.forall_mem_cons.mpr ⟨tw_1248, (List.forall_mem_cons.mpr ⟨tw_63, (List.forall_mem_cons.mpr ⟨tw_1249, (fun _ h => absurd h List.not_mem_nil)⟩)⟩)⟩)⟩)⟩)⟩)⟩)⟩)⟩)
set_option maxRecDepth 100000 in
theorem dl_wsX9_split : ∀ w ∈ wsX9_split, w ∈ lw_tbl := (List.forall_mem_cons.mpr ⟨tw_1245, (List.forall_mem_append.mpr ⟨(List.forall_mem_append.mpr ⟨dl_wsX9_split_r1, dl_wsX9_split_r2⟩), fu_wsX90⟩)⟩)
set_option maxRecDepth 100000 in
theorem tw_1244 : Cond.selects RX9 yX9_split yX9_split ∈ lw_tbl := List.mem_append_right _ (List.mem_append_right _ (List.mem_append_right _ (List.mem_append_right _ (List.mem_append_right _ (List.mem_append_left _ (List.mem_of_getElem? (i := 211) rfl))))))
set_option maxRecDepth 100000 in
theorem tw_1243 : Cond.instanceMethod yX9_split ∈ lw_tbl := List.mem_append_right _ (List.mem_append_right _ (List.mem_append_right _ (List.mem_append_right _ (List.mem_append_right _ (List.mem_append_left _ (List.mem_of_getElem? (i := 210) rfl))))))
set_option maxRecDepth 100000 in
theorem tw_1242 : Cond.methodLink RL 100 yX9_split ∈ lw_tbl := List.mem_append_right _ (List.mem_append_right _ (List.mem_append_right _ (List.mem_append_right _ (List.mem_append_right _ (List.mem_append_left _ (List.mem_of_getElem? (i := 209) rfl))))))
set_option maxRecDepth 100000 in
theorem tw_743 : Cond.code yX8_see cX8_see 3 (some .int) ∈ lw_tbl := List.mem_append_right _ (List.mem_append_right _ (List.mem_append_right _ (List.mem_append_left _ (List.mem_of_getElem? (i := 190) rfl))))
set_option maxRecDepth 100000 in
theorem tw_751 : Cond.code yX1_add cX1_add 4 (some .boolean) ∈ lw_tbl := List.mem_append_right _ (List.mem_append_right _ (List.mem_append_right _ (List.mem_append_left _ (List.mem_of_getElem? (i := 198) rfl))))
set_option maxRecDepth 100000 in
theorem tw_750 : Cond.selects RX1 yX1_add yX1_add ∈ lw_tbl := List.mem_append_right _ (List.mem_append_right _ (List.mem_append_right _ (List.mem_append_left _ (List.mem_of_getElem? (i := 197) rfl))))
set_option maxRecDepth 100000 in
theorem tw_749 : Cond.instanceMethod yX1_add ∈ lw_tbl := List.mem_append_right _ (List.mem_append_right _ (List.mem_append_right _ (List.mem_append_left _ (List.mem_of_getElem? (i := 196) rfl))))
set_option maxRecDepth 100000 in
theorem tw_748 : Cond.methodLink RX8 239 yX1_add ∈ lw_tbl := List.mem_append_right _ (List.mem_append_right _ (List.mem_append_right _ (List.mem_append_left _ (List.mem_of_getElem? (i := 195) rfl))))
set_option maxRecDepth 100000 in
theorem tw_747 : Cond.code yX1_empty cX1_empty 1 none ∈ lw_tbl := List.mem_append_right _ (List.mem_append_right _ (List.mem_append_right _ (List.mem_append_left _ (List.mem_of_getElem? (i := 194) rfl))))
set_option maxRecDepth 100000 in
theorem tw_746 : Cond.selects RX1 yX1_empty yX1_empty ∈ lw_tbl := List.mem_append_right _ (List.mem_append_right _ (List.mem_append_right _ (List.mem_append_left _ (List.mem_of_getElem? (i := 193) rfl))))
set_option maxRecDepth 100000 in
theorem tw_745 : Cond.instanceMethod yX1_empty ∈ lw_tbl := List.mem_append_right _ (List.mem_append_right _ (List.mem_append_right _ (List.mem_append_left _ (List.mem_of_getElem? (i := 192) rfl))))
set_option maxRecDepth 100000 in
theorem tw_744 : Cond.methodLink RX8 236 yX1_empty ∈ lw_tbl := List.mem_append_right _ (List.mem_append_right _ (List.mem_append_right _ (List.mem_append_left _ (List.mem_of_getElem? (i := 191) rfl))))
set_option maxRecDepth 100000 in
theorem tw_149 : Cond.fieldLink RX8 241 "TightHulls$Rows" "held" "I" ∈ lw_tbl := List.mem_append_right _ (List.mem_append_left _ (List.mem_of_getElem? (i := 76) rfl))
set_option maxRecDepth 100000 in
theorem tw_170 : Cond.fieldLink RX8 232 "TightHulls$Setup" "seen" "LTightHulls$Rows;" ∈ lw_tbl := List.mem_append_right _ (List.mem_append_left _ (List.mem_of_getElem? (i := 97) rfl))
set_option maxRecDepth 100000 in
theorem dl_wsX8_see : ∀ w ∈ wsX8_see, w ∈ lw_tbl := (List.forall_mem_cons.mpr ⟨tw_743, (List.forall_mem_append.mpr ⟨(List.forall_mem_append.mpr ⟨(List.forall_mem_append.mpr ⟨(List.forall_mem_append.mpr ⟨(List.forall_mem_cons.mpr ⟨tw_291, (List.forall_mem_cons.mpr ⟨tw_170, (List.forall_mem_cons.mpr ⟨tw_163, (List.forall_mem_cons.mpr ⟨tw_149, (List.forall_mem_cons.mpr ⟨tw_744, (List.forall_mem_cons.mpr ⟨tw_745, (List.forall_mem_cons.mpr ⟨tw_746, (List.forall_mem_cons.mpr ⟨tw_78, (List.forall_mem_cons.mpr ⟨tw_747, (List.forall_mem_cons.mpr ⟨tw_147, (List.forall_mem_cons.mpr ⟨tw_731, (List.forall_mem_cons.mpr ⟨tw_732, (List.forall_mem_cons.mpr ⟨tw_733, (List.forall_mem_cons.mpr ⟨tw_76, (List.forall_mem_cons.mpr ⟨tw_734, (List.forall_mem_cons.mpr ⟨tw_126, (List.forall_mem_cons.mpr ⟨tw_748, (List.forall_mem_cons.mpr ⟨tw_749, (List.forall_mem_cons.mpr ⟨tw_750, (List.forall_mem_cons.mpr ⟨tw_751, (List.forall_mem_cons.mpr ⟨tw_145, (List.forall_mem_cons.mpr ⟨tw_146, (fun _ h => absurd h List.not_mem_nil)⟩)⟩)⟩)⟩)⟩)⟩)⟩)⟩)⟩)⟩)⟩)⟩)⟩)⟩)⟩)⟩)⟩)⟩)⟩)⟩)⟩)⟩), fu_wsX80⟩), fu_wsX20⟩), fu_wsX10⟩), fu_wsX40⟩)⟩)
set_option maxRecDepth 100000 in
theorem tw_742 : Cond.selects RX8 yX8_see yX8_see ∈ lw_tbl := List.mem_append_right _ (List.mem_append_right _ (List.mem_append_right _ (List.mem_append_left _ (List.mem_of_getElem? (i := 189) rfl))))
set_option maxRecDepth 100000 in
theorem tw_741 : Cond.instanceMethod yX8_see ∈ lw_tbl := List.mem_append_right _ (List.mem_append_right _ (List.mem_append_right _ (List.mem_append_left _ (List.mem_of_getElem? (i := 188) rfl))))
set_option maxRecDepth 100000 in
theorem tw_740 : Cond.methodLink RL 101 yX8_see ∈ lw_tbl := List.mem_append_right _ (List.mem_append_right _ (List.mem_append_right _ (List.mem_append_left _ (List.mem_of_getElem? (i := 187) rfl))))
set_option maxRecDepth 100000 in
theorem tw_1253 : Cond.code yX9_see cX9_see 3 (some .int) ∈ lw_tbl := List.mem_append_right _ (List.mem_append_right _ (List.mem_append_right _ (List.mem_append_right _ (List.mem_append_right _ (List.mem_append_left _ (List.mem_of_getElem? (i := 220) rfl))))))
set_option maxRecDepth 100000 in
theorem tw_911 : Cond.fieldLink RX9 239 "TightHullsModel" "seen" "I" ∈ lw_tbl := List.mem_append_right _ (List.mem_append_right _ (List.mem_append_right _ (List.mem_append_right _ (List.mem_append_left _ (List.mem_of_getElem? (i := 118) rfl)))))
set_option maxRecDepth 100000 in
theorem dl_wsX9_see : ∀ w ∈ wsX9_see, w ∈ lw_tbl := (List.forall_mem_cons.mpr ⟨tw_1253, (List.forall_mem_append.mpr ⟨(List.forall_mem_cons.mpr ⟨tw_911, (List.forall_mem_cons.mpr ⟨tw_912, (List.forall_mem_cons.mpr ⟨tw_913, (List.forall_mem_cons.mpr ⟨tw_1106, (List.forall_mem_cons.mpr ⟨tw_1108, (List.forall_mem_cons.mpr ⟨tw_40, (List.forall_mem_cons.mpr ⟨tw_83, (List.forall_mem_cons.mpr ⟨tw_1109, (List.forall_mem_cons.mpr ⟨tw_907, (List.forall_mem_cons.mpr ⟨tw_1017, (List.forall_mem_cons.mpr ⟨tw_1018, (List.forall_mem_cons.mpr ⟨tw_1019, (fun _ h => absurd h List.not_mem_nil)⟩)⟩)⟩)⟩)⟩)⟩)⟩)⟩)⟩)⟩)⟩)⟩), fu_wsX90⟩)⟩)
set_option maxRecDepth 100000 in
theorem tw_1252 : Cond.selects RX9 yX9_see yX9_see ∈ lw_tbl := List.mem_append_right _ (List.mem_append_right _ (List.mem_append_right _ (List.mem_append_right _ (List.mem_append_right _ (List.mem_append_left _ (List.mem_of_getElem? (i := 219) rfl))))))
set_option maxRecDepth 100000 in
theorem tw_1251 : Cond.instanceMethod yX9_see ∈ lw_tbl := List.mem_append_right _ (List.mem_append_right _ (List.mem_append_right _ (List.mem_append_right _ (List.mem_append_right _ (List.mem_append_left _ (List.mem_of_getElem? (i := 218) rfl))))))
set_option maxRecDepth 100000 in
theorem tw_1250 : Cond.methodLink RL 104 yX9_see ∈ lw_tbl := List.mem_append_right _ (List.mem_append_right _ (List.mem_append_right _ (List.mem_append_right _ (List.mem_append_right _ (List.mem_append_left _ (List.mem_of_getElem? (i := 217) rfl))))))
set_option maxRecDepth 100000 in
theorem tw_755 : Cond.code yX8_fits cX8_fits 7 (some .int) ∈ lw_tbl := List.mem_append_right _ (List.mem_append_right _ (List.mem_append_right _ (List.mem_append_left _ (List.mem_of_getElem? (i := 202) rfl))))
set_option maxRecDepth 100000 in
theorem tw_756 : Cond.methodLink RX8 242 yX4_put ∈ lw_tbl := List.mem_append_right _ (List.mem_append_right _ (List.mem_append_right _ (List.mem_append_left _ (List.mem_of_getElem? (i := 203) rfl))))
set_option maxRecDepth 100000 in
theorem dl_wsX8_fits_r1 : ∀ w ∈ wsX8_fits_r1, w ∈ lw_tbl := (List.forall_mem_cons.mpr ⟨tw_291, (List.forall_mem_cons.mpr ⟨tw_163, (List.forall_mem_cons.mpr ⟨tw_294, (List.forall_mem_cons.mpr ⟨tw_325, (List.forall_mem_cons.mpr ⟨tw_122, (List.forall_mem_cons.mpr ⟨tw_123, (List.forall_mem_cons.mpr ⟨tw_76, (List.forall_mem_cons.mpr ⟨tw_124, (List.forall_mem_cons.mpr ⟨tw_126, (List.forall_mem_cons.mpr ⟨tw_340, (List.forall_mem_cons.mpr ⟨tw_341, (List.forall_mem_cons.mpr ⟨tw_342, (List.forall_mem_cons.mpr ⟨tw_343, (List.forall_mem_cons.mpr ⟨tw_131, (List.forall_mem_cons.mpr ⟨tw_344, (List.forall_mem_cons.mpr ⟨tw_346, (List.forall_mem_cons.mpr ⟨tw_345, (List.forall_mem_cons.mpr ⟨tw_84, (List.forall_mem_cons.mpr ⟨tw_756, (List.forall_mem_cons.mpr ⟨tw_118, (List.forall_mem_cons.mpr ⟨tw_119, (List.forall_mem_cons.mpr ⟨tw_120, (List.forall_mem_cons.mpr ⟨tw_121, (List.forall_mem_cons.mpr ⟨tw_576, (fun _ h => absurd h List.not_mem_nil)⟩)⟩)⟩)⟩)⟩)⟩)⟩)⟩)⟩)⟩)⟩)⟩)⟩)⟩)⟩)⟩)⟩)⟩)⟩)⟩)⟩)⟩)⟩)⟩)
set_option maxRecDepth 100000 in
theorem tw_764 : Cond.code yX1_cell cX1_cell 4 (some .int) ∈ lw_tbl := List.mem_append_right _ (List.mem_append_right _ (List.mem_append_right _ (List.mem_append_left _ (List.mem_of_getElem? (i := 211) rfl))))
set_option maxRecDepth 100000 in
theorem tw_763 : Cond.selects RX1 yX1_cell yX1_cell ∈ lw_tbl := List.mem_append_right _ (List.mem_append_right _ (List.mem_append_right _ (List.mem_append_left _ (List.mem_of_getElem? (i := 210) rfl))))
set_option maxRecDepth 100000 in
theorem tw_762 : Cond.instanceMethod yX1_cell ∈ lw_tbl := List.mem_append_right _ (List.mem_append_right _ (List.mem_append_right _ (List.mem_append_left _ (List.mem_of_getElem? (i := 209) rfl))))
set_option maxRecDepth 100000 in
theorem tw_761 : Cond.methodLink RX2 98 yX1_cell ∈ lw_tbl := List.mem_append_right _ (List.mem_append_right _ (List.mem_append_right _ (List.mem_append_left _ (List.mem_of_getElem? (i := 208) rfl))))
set_option maxRecDepth 100000 in
theorem tw_148 : Cond.fieldLink RX2 95 "TightHulls$Rows" "held" "I" ∈ lw_tbl := List.mem_append_right _ (List.mem_append_left _ (List.mem_of_getElem? (i := 75) rfl))
set_option maxRecDepth 100000 in
theorem tw_760 : Cond.code yX2_isAsSeen cX2_isAsSeen 4 (some .boolean) ∈ lw_tbl := List.mem_append_right _ (List.mem_append_right _ (List.mem_append_right _ (List.mem_append_left _ (List.mem_of_getElem? (i := 207) rfl))))
set_option maxRecDepth 100000 in
theorem tw_759 : Cond.selects RX2 yX2_isAsSeen yX2_isAsSeen ∈ lw_tbl := List.mem_append_right _ (List.mem_append_right _ (List.mem_append_right _ (List.mem_append_left _ (List.mem_of_getElem? (i := 206) rfl))))
set_option maxRecDepth 100000 in
theorem tw_758 : Cond.instanceMethod yX2_isAsSeen ∈ lw_tbl := List.mem_append_right _ (List.mem_append_right _ (List.mem_append_right _ (List.mem_append_left _ (List.mem_of_getElem? (i := 205) rfl))))
set_option maxRecDepth 100000 in
theorem tw_757 : Cond.methodLink RX8 246 yX2_isAsSeen ∈ lw_tbl := List.mem_append_right _ (List.mem_append_right _ (List.mem_append_right _ (List.mem_append_left _ (List.mem_of_getElem? (i := 204) rfl))))
set_option maxRecDepth 100000 in
theorem dl_wsX8_fits_r2 : ∀ w ∈ wsX8_fits_r2, w ∈ lw_tbl := (List.forall_mem_cons.mpr ⟨tw_396, (List.forall_mem_cons.mpr ⟨tw_397, (List.forall_mem_cons.mpr ⟨tw_398, (List.forall_mem_cons.mpr ⟨tw_399, (List.forall_mem_cons.mpr ⟨tw_400, (List.forall_mem_cons.mpr ⟨tw_401, (List.forall_mem_cons.mpr ⟨tw_402, (List.forall_mem_cons.mpr ⟨tw_351, (List.forall_mem_cons.mpr ⟨tw_327, (List.forall_mem_cons.mpr ⟨tw_328, (List.forall_mem_cons.mpr ⟨tw_329, (List.forall_mem_cons.mpr ⟨tw_757, (List.forall_mem_cons.mpr ⟨tw_758, (List.forall_mem_cons.mpr ⟨tw_759, (List.forall_mem_cons.mpr ⟨tw_75, (List.forall_mem_cons.mpr ⟨tw_760, (List.forall_mem_cons.mpr ⟨tw_169, (List.forall_mem_cons.mpr ⟨tw_148, (List.forall_mem_cons.mpr ⟨tw_761, (List.forall_mem_cons.mpr ⟨tw_762, (List.forall_mem_cons.mpr ⟨tw_763, (List.forall_mem_cons.mpr ⟨tw_78, (List.forall_mem_cons.mpr ⟨tw_764, (List.forall_mem_cons.mpr ⟨tw_147, (fun _ h => absurd h List.not_mem_nil)⟩)⟩)⟩)⟩)⟩)⟩)⟩)⟩)⟩)⟩)⟩)⟩)⟩)⟩)⟩)⟩)⟩)⟩)⟩)⟩)⟩)⟩)⟩)⟩)
set_option maxRecDepth 100000 in
theorem tw_766 : Cond.methodLink RX2 104 yX4_weightOf ∈ lw_tbl := List.mem_append_right _ (List.mem_append_right _ (List.mem_append_right _ (List.mem_append_left _ (List.mem_of_getElem? (i := 213) rfl))))
set_option maxRecDepth 100000 in
theorem tw_765 : Cond.methodLink RX2 101 yX4_isSplit ∈ lw_tbl := List.mem_append_right _ (List.mem_append_right _ (List.mem_append_right _ (List.mem_append_left _ (List.mem_of_getElem? (i := 212) rfl))))
set_option maxRecDepth 100000 in
theorem dl_wsX8_fits_r3 : ∀ w ∈ wsX8_fits_r3, w ∈ lw_tbl := (List.forall_mem_cons.mpr ⟨tw_146, (List.forall_mem_cons.mpr ⟨tw_765, (List.forall_mem_cons.mpr ⟨tw_732, (List.forall_mem_cons.mpr ⟨tw_733, (List.forall_mem_cons.mpr ⟨tw_734, (List.forall_mem_cons.mpr ⟨tw_766, (List.forall_mem_cons.mpr ⟨tw_553, (List.forall_mem_cons.mpr ⟨tw_554, (List.forall_mem_cons.mpr ⟨tw_555, (List.forall_mem_cons.mpr ⟨tw_111, (List.forall_mem_cons.mpr ⟨tw_112, (List.forall_mem_cons.mpr ⟨tw_77, (List.forall_mem_cons.mpr ⟨tw_113, (List.forall_mem_cons.mpr ⟨tw_556, (List.forall_mem_cons.mpr ⟨tw_558, (List.forall_mem_cons.mpr ⟨tw_19, (List.forall_mem_cons.mpr ⟨tw_559, (List.forall_mem_cons.mpr ⟨tw_114, (List.forall_mem_cons.mpr ⟨tw_115, (List.forall_mem_cons.mpr ⟨tw_116, (fun _ h => absurd h List.not_mem_nil)⟩)⟩)⟩)⟩)⟩)⟩)⟩)⟩)⟩)⟩)⟩)⟩)⟩)⟩)⟩)⟩)⟩)⟩)⟩)⟩)
set_option maxRecDepth 100000 in
theorem dl_wsX8_fits : ∀ w ∈ wsX8_fits, w ∈ lw_tbl := (List.forall_mem_cons.mpr ⟨tw_755, (List.forall_mem_append.mpr ⟨(List.forall_mem_append.mpr ⟨(List.forall_mem_append.mpr ⟨(List.forall_mem_append.mpr ⟨(List.forall_mem_append.mpr ⟨dl_wsX8_fits_r1, (List.forall_mem_append.mpr ⟨dl_wsX8_fits_r2, dl_wsX8_fits_r3⟩)⟩), fu_wsX80⟩), fu_wsX20⟩), fu_wsX40⟩), fu_wsX10⟩)⟩)
set_option maxRecDepth 100000 in
theorem tw_754 : Cond.selects RX8 yX8_fits yX8_fits ∈ lw_tbl := List.mem_append_right _ (List.mem_append_right _ (List.mem_append_right _ (List.mem_append_left _ (List.mem_of_getElem? (i := 201) rfl))))
set_option maxRecDepth 100000 in
theorem tw_753 : Cond.instanceMethod yX8_fits ∈ lw_tbl := List.mem_append_right _ (List.mem_append_right _ (List.mem_append_right _ (List.mem_append_left _ (List.mem_of_getElem? (i := 200) rfl))))
set_option maxRecDepth 100000 in
theorem tw_752 : Cond.methodLink RL 105 yX8_fits ∈ lw_tbl := List.mem_append_right _ (List.mem_append_right _ (List.mem_append_right _ (List.mem_append_left _ (List.mem_of_getElem? (i := 199) rfl))))
set_option maxRecDepth 100000 in
theorem tw_1257 : Cond.code yX9_fits cX9_fits 8 (some .int) ∈ lw_tbl := List.mem_append_right _ (List.mem_append_right _ (List.mem_append_right _ (List.mem_append_right _ (List.mem_append_right _ (List.mem_append_left _ (List.mem_of_getElem? (i := 224) rfl))))))
set_option maxRecDepth 100000 in
theorem tw_1260 : Cond.instanceMethod yX9_isAsSeen ∈ lw_tbl := List.mem_append_right _ (List.mem_append_right _ (List.mem_append_right _ (List.mem_append_right _ (List.mem_append_right _ (List.mem_append_left _ (List.mem_of_getElem? (i := 227) rfl))))))
set_option maxRecDepth 100000 in
theorem tw_1258 : Cond.methodLink RX9 242 yX9_isAsSeen ∈ lw_tbl := List.mem_append_right _ (List.mem_append_right _ (List.mem_append_right _ (List.mem_append_right _ (List.mem_append_right _ (List.mem_append_left _ (List.mem_of_getElem? (i := 225) rfl))))))
set_option maxRecDepth 100000 in
theorem dl_wsX9_fits_r1 : ∀ w ∈ wsX9_fits_r1, w ∈ lw_tbl := (List.forall_mem_cons.mpr ⟨tw_1028, (List.forall_mem_cons.mpr ⟨tw_1030, (List.forall_mem_cons.mpr ⟨tw_26, (List.forall_mem_cons.mpr ⟨tw_83, (List.forall_mem_cons.mpr ⟨tw_1031, (List.forall_mem_cons.mpr ⟨tw_1032, (List.forall_mem_cons.mpr ⟨tw_1034, (List.forall_mem_cons.mpr ⟨tw_27, (List.forall_mem_cons.mpr ⟨tw_1035, (List.forall_mem_cons.mpr ⟨tw_907, (List.forall_mem_cons.mpr ⟨tw_1017, (List.forall_mem_cons.mpr ⟨tw_1018, (List.forall_mem_cons.mpr ⟨tw_1019, (List.forall_mem_cons.mpr ⟨tw_1036, (List.forall_mem_cons.mpr ⟨tw_1038, (List.forall_mem_cons.mpr ⟨tw_28, (List.forall_mem_cons.mpr ⟨tw_1039, (List.forall_mem_cons.mpr ⟨tw_908, (List.forall_mem_cons.mpr ⟨tw_1020, (List.forall_mem_cons.mpr ⟨tw_1022, (List.forall_mem_cons.mpr ⟨tw_25, (List.forall_mem_cons.mpr ⟨tw_1023, (List.forall_mem_cons.mpr ⟨tw_1258, (List.forall_mem_cons.mpr ⟨tw_1260, (fun _ h => absurd h List.not_mem_nil)⟩)⟩)⟩)⟩)⟩)⟩)⟩)⟩)⟩)⟩)⟩)⟩)⟩)⟩)⟩)⟩)⟩)⟩)⟩)⟩)⟩)⟩)⟩)⟩)
set_option maxRecDepth 100000 in
theorem tw_1261 : Cond.code yX9_isAsSeen cX9_isAsSeen 2 (some .boolean) ∈ lw_tbl := List.mem_append_right _ (List.mem_append_right _ (List.mem_append_right _ (List.mem_append_right _ (List.mem_append_right _ (List.mem_append_left _ (List.mem_of_getElem? (i := 228) rfl))))))
set_option maxRecDepth 100000 in
theorem tw_64 : Cond.selects RX9 yX9_isAsSeen yX9_isAsSeen ∈ lw_tbl := List.mem_append_left _ (List.mem_of_getElem? (i := 64) rfl)
set_option maxRecDepth 100000 in
theorem dl_wsX9_fits_r2 : ∀ w ∈ wsX9_fits_r2, w ∈ lw_tbl := (List.forall_mem_cons.mpr ⟨tw_64, (List.forall_mem_cons.mpr ⟨tw_1261, (List.forall_mem_cons.mpr ⟨tw_911, (List.forall_mem_cons.mpr ⟨tw_912, (List.forall_mem_cons.mpr ⟨tw_913, (List.forall_mem_cons.mpr ⟨tw_1106, (List.forall_mem_cons.mpr ⟨tw_1108, (List.forall_mem_cons.mpr ⟨tw_40, (List.forall_mem_cons.mpr ⟨tw_1109, (List.forall_mem_cons.mpr ⟨tw_1110, (List.forall_mem_cons.mpr ⟨tw_1112, (List.forall_mem_cons.mpr ⟨tw_41, (List.forall_mem_cons.mpr ⟨tw_1113, (List.forall_mem_cons.mpr ⟨tw_1085, (List.forall_mem_cons.mpr ⟨tw_115, (List.forall_mem_cons.mpr ⟨tw_77, (List.forall_mem_cons.mpr ⟨tw_116, (List.forall_mem_cons.mpr ⟨tw_1048, (List.forall_mem_cons.mpr ⟨tw_112, (List.forall_mem_cons.mpr ⟨tw_113, (List.forall_mem_cons.mpr ⟨tw_1114, (List.forall_mem_cons.mpr ⟨tw_1116, (List.forall_mem_cons.mpr ⟨tw_42, (List.forall_mem_cons.mpr ⟨tw_1117, (fun _ h => absurd h List.not_mem_nil)⟩)⟩)⟩)⟩)⟩)⟩)⟩)⟩)⟩)⟩)⟩)⟩)⟩)⟩)⟩)⟩)⟩)⟩)⟩)⟩)⟩)⟩)⟩)⟩)
set_option maxRecDepth 100000 in
theorem dl_wsX9_fits_r3 : ∀ w ∈ wsX9_fits_r3, w ∈ lw_tbl := (List.forall_mem_cons.mpr ⟨tw_1057, (List.forall_mem_cons.mpr ⟨tw_1059, (List.forall_mem_cons.mpr ⟨tw_30, (List.forall_mem_cons.mpr ⟨tw_1060, (fun _ h => absurd h List.not_mem_nil)⟩)⟩)⟩)⟩)
set_option maxRecDepth 100000 in
theorem dl_wsX9_fits : ∀ w ∈ wsX9_fits, w ∈ lw_tbl := (List.forall_mem_cons.mpr ⟨tw_1257, (List.forall_mem_append.mpr ⟨(List.forall_mem_append.mpr ⟨dl_wsX9_fits_r1, (List.forall_mem_append.mpr ⟨dl_wsX9_fits_r2, dl_wsX9_fits_r3⟩)⟩), fu_wsX90⟩)⟩)
set_option maxRecDepth 100000 in
theorem tw_1256 : Cond.selects RX9 yX9_fits yX9_fits ∈ lw_tbl := List.mem_append_right _ (List.mem_append_right _ (List.mem_append_right _ (List.mem_append_right _ (List.mem_append_right _ (List.mem_append_left _ (List.mem_of_getElem? (i := 223) rfl))))))
set_option maxRecDepth 100000 in
theorem tw_1255 : Cond.instanceMethod yX9_fits ∈ lw_tbl := List.mem_append_right _ (List.mem_append_right _ (List.mem_append_right _ (List.mem_append_right _ (List.mem_append_right _ (List.mem_append_left _ (List.mem_of_getElem? (i := 222) rfl))))))
set_option maxRecDepth 100000 in
theorem tw_1254 : Cond.methodLink RL 108 yX9_fits ∈ lw_tbl := List.mem_append_right _ (List.mem_append_right _ (List.mem_append_right _ (List.mem_append_right _ (List.mem_append_right _ (List.mem_append_left _ (List.mem_of_getElem? (i := 221) rfl))))))
set_option maxRecDepth 100000 in
theorem tw_770 : Cond.code yX8_odds cX8_odds 4 (some .long) ∈ lw_tbl := List.mem_append_right _ (List.mem_append_right _ (List.mem_append_right _ (List.mem_append_left _ (List.mem_of_getElem? (i := 217) rfl))))
set_option maxRecDepth 100000 in
theorem tw_771 : Cond.constantLong RX8 250 (-9223372036854775808) ∈ lw_tbl := List.mem_append_right _ (List.mem_append_right _ (List.mem_append_right _ (List.mem_append_left _ (List.mem_of_getElem? (i := 218) rfl))))
set_option maxRecDepth 100000 in
theorem dl_wsX8_odds_r1 : ∀ w ∈ wsX8_odds_r1, w ∈ lw_tbl := (List.forall_mem_cons.mpr ⟨tw_291, (List.forall_mem_cons.mpr ⟨tw_163, (List.forall_mem_cons.mpr ⟨tw_771, (List.forall_mem_cons.mpr ⟨tw_295, (List.forall_mem_cons.mpr ⟨tw_205, (List.forall_mem_cons.mpr ⟨tw_325, (List.forall_mem_cons.mpr ⟨tw_122, (List.forall_mem_cons.mpr ⟨tw_123, (List.forall_mem_cons.mpr ⟨tw_76, (List.forall_mem_cons.mpr ⟨tw_124, (List.forall_mem_cons.mpr ⟨tw_126, (List.forall_mem_cons.mpr ⟨tw_546, (List.forall_mem_cons.mpr ⟨tw_547, (List.forall_mem_cons.mpr ⟨tw_548, (List.forall_mem_cons.mpr ⟨tw_79, (List.forall_mem_cons.mpr ⟨tw_549, (List.forall_mem_cons.mpr ⟨tw_199, (List.forall_mem_cons.mpr ⟨tw_198, (List.forall_mem_cons.mpr ⟨tw_204, (List.forall_mem_cons.mpr ⟨tw_127, (List.forall_mem_cons.mpr ⟨tw_550, (List.forall_mem_cons.mpr ⟨tw_390, (List.forall_mem_cons.mpr ⟨tw_391, (List.forall_mem_cons.mpr ⟨tw_392, (fun _ h => absurd h List.not_mem_nil)⟩)⟩)⟩)⟩)⟩)⟩)⟩)⟩)⟩)⟩)⟩)⟩)⟩)⟩)⟩)⟩)⟩)⟩)⟩)⟩)⟩)⟩)⟩)⟩)
set_option maxRecDepth 100000 in
theorem dl_wsX8_odds_r2 : ∀ w ∈ wsX8_odds_r2, w ∈ lw_tbl := (List.forall_mem_cons.mpr ⟨tw_393, (List.forall_mem_cons.mpr ⟨tw_353, (List.forall_mem_cons.mpr ⟨tw_354, (List.forall_mem_cons.mpr ⟨tw_355, (List.forall_mem_cons.mpr ⟨tw_351, (List.forall_mem_cons.mpr ⟨tw_327, (List.forall_mem_cons.mpr ⟨tw_328, (List.forall_mem_cons.mpr ⟨tw_329, (List.forall_mem_cons.mpr ⟨tw_131, (List.forall_mem_cons.mpr ⟨tw_551, (List.forall_mem_cons.mpr ⟨tw_341, (List.forall_mem_cons.mpr ⟨tw_342, (List.forall_mem_cons.mpr ⟨tw_343, (List.forall_mem_cons.mpr ⟨tw_344, (List.forall_mem_cons.mpr ⟨tw_346, (List.forall_mem_cons.mpr ⟨tw_345, (List.forall_mem_cons.mpr ⟨tw_84, (List.forall_mem_cons.mpr ⟨tw_552, (List.forall_mem_cons.mpr ⟨tw_553, (List.forall_mem_cons.mpr ⟨tw_554, (List.forall_mem_cons.mpr ⟨tw_555, (List.forall_mem_cons.mpr ⟨tw_111, (List.forall_mem_cons.mpr ⟨tw_112, (List.forall_mem_cons.mpr ⟨tw_77, (fun _ h => absurd h List.not_mem_nil)⟩)⟩)⟩)⟩)⟩)⟩)⟩)⟩)⟩)⟩)⟩)⟩)⟩)⟩)⟩)⟩)⟩)⟩)⟩)⟩)⟩)⟩)⟩)⟩)
set_option maxRecDepth 100000 in
theorem tw_777 : Cond.static yX8_lowestTerms ∈ lw_tbl := List.mem_append_right _ (List.mem_append_right _ (List.mem_append_right _ (List.mem_append_left _ (List.mem_of_getElem? (i := 224) rfl))))
set_option maxRecDepth 100000 in
theorem tw_776 : Cond.methodLink RX8 255 yX8_lowestTerms ∈ lw_tbl := List.mem_append_right _ (List.mem_append_right _ (List.mem_append_right _ (List.mem_append_left _ (List.mem_of_getElem? (i := 223) rfl))))
set_option maxRecDepth 100000 in
theorem tw_775 : Cond.code yX3_manyBetween cX3_manyBetween 5 (some .int) ∈ lw_tbl := List.mem_append_right _ (List.mem_append_right _ (List.mem_append_right _ (List.mem_append_left _ (List.mem_of_getElem? (i := 222) rfl))))
set_option maxRecDepth 100000 in
theorem tw_774 : Cond.selects RX3 yX3_manyBetween yX3_manyBetween ∈ lw_tbl := List.mem_append_right _ (List.mem_append_right _ (List.mem_append_right _ (List.mem_append_left _ (List.mem_of_getElem? (i := 221) rfl))))
set_option maxRecDepth 100000 in
theorem tw_773 : Cond.instanceMethod yX3_manyBetween ∈ lw_tbl := List.mem_append_right _ (List.mem_append_right _ (List.mem_append_right _ (List.mem_append_left _ (List.mem_of_getElem? (i := 220) rfl))))
set_option maxRecDepth 100000 in
theorem tw_772 : Cond.methodLink RX8 252 yX3_manyBetween ∈ lw_tbl := List.mem_append_right _ (List.mem_append_right _ (List.mem_append_right _ (List.mem_append_left _ (List.mem_of_getElem? (i := 219) rfl))))
set_option maxRecDepth 100000 in
theorem dl_wsX8_odds_r3 : ∀ w ∈ wsX8_odds_r3, w ∈ lw_tbl := (List.forall_mem_cons.mpr ⟨tw_113, (List.forall_mem_cons.mpr ⟨tw_556, (List.forall_mem_cons.mpr ⟨tw_558, (List.forall_mem_cons.mpr ⟨tw_19, (List.forall_mem_cons.mpr ⟨tw_559, (List.forall_mem_cons.mpr ⟨tw_114, (List.forall_mem_cons.mpr ⟨tw_115, (List.forall_mem_cons.mpr ⟨tw_116, (List.forall_mem_cons.mpr ⟨tw_560, (List.forall_mem_cons.mpr ⟨tw_562, (List.forall_mem_cons.mpr ⟨tw_20, (List.forall_mem_cons.mpr ⟨tw_563, (List.forall_mem_cons.mpr ⟨tw_202, (List.forall_mem_cons.mpr ⟨tw_200, (List.forall_mem_cons.mpr ⟨tw_772, (List.forall_mem_cons.mpr ⟨tw_773, (List.forall_mem_cons.mpr ⟨tw_774, (List.forall_mem_cons.mpr ⟨tw_775, (List.forall_mem_cons.mpr ⟨tw_568, (List.forall_mem_cons.mpr ⟨tw_570, (List.forall_mem_cons.mpr ⟨tw_21, (List.forall_mem_cons.mpr ⟨tw_571, (List.forall_mem_cons.mpr ⟨tw_776, (List.forall_mem_cons.mpr ⟨tw_777, (fun _ h => absurd h List.not_mem_nil)⟩)⟩)⟩)⟩)⟩)⟩)⟩)⟩)⟩)⟩)⟩)⟩)⟩)⟩)⟩)⟩)⟩)⟩)⟩)⟩)⟩)⟩)⟩)⟩)
set_option maxRecDepth 100000 in
theorem tw_781 : Cond.code yX8_commonDivisor cX8_commonDivisor 6 (some .int) ∈ lw_tbl := List.mem_append_right _ (List.mem_append_right _ (List.mem_append_right _ (List.mem_append_left _ (List.mem_of_getElem? (i := 228) rfl))))
set_option maxRecDepth 100000 in
theorem tw_780 : Cond.static yX8_commonDivisor ∈ lw_tbl := List.mem_append_right _ (List.mem_append_right _ (List.mem_append_right _ (List.mem_append_left _ (List.mem_of_getElem? (i := 227) rfl))))
set_option maxRecDepth 100000 in
theorem tw_779 : Cond.methodLink RX8 311 yX8_commonDivisor ∈ lw_tbl := List.mem_append_right _ (List.mem_append_right _ (List.mem_append_right _ (List.mem_append_left _ (List.mem_of_getElem? (i := 226) rfl))))
set_option maxRecDepth 100000 in
theorem tw_778 : Cond.code yX8_lowestTerms cX8_lowestTerms 4 (some .long) ∈ lw_tbl := List.mem_append_right _ (List.mem_append_right _ (List.mem_append_right _ (List.mem_append_left _ (List.mem_of_getElem? (i := 225) rfl))))
set_option maxRecDepth 100000 in
theorem dl_wsX8_odds_r4 : ∀ w ∈ wsX8_odds_r4, w ∈ lw_tbl := (List.forall_mem_cons.mpr ⟨tw_74, (List.forall_mem_cons.mpr ⟨tw_778, (List.forall_mem_cons.mpr ⟨tw_779, (List.forall_mem_cons.mpr ⟨tw_780, (List.forall_mem_cons.mpr ⟨tw_781, (fun _ h => absurd h List.not_mem_nil)⟩)⟩)⟩)⟩)⟩)
set_option maxRecDepth 100000 in
theorem dl_wsX8_odds : ∀ w ∈ wsX8_odds, w ∈ lw_tbl := (List.forall_mem_cons.mpr ⟨tw_770, (List.forall_mem_append.mpr ⟨(List.forall_mem_append.mpr ⟨(List.forall_mem_append.mpr ⟨(List.forall_mem_append.mpr ⟨(List.forall_mem_append.mpr ⟨dl_wsX8_odds_r1, (List.forall_mem_append.mpr ⟨dl_wsX8_odds_r2, (List.forall_mem_append.mpr ⟨dl_wsX8_odds_r3, dl_wsX8_odds_r4⟩)⟩)⟩), fu_wsX80⟩), fu_wsX20⟩), fu_wsX30⟩), fu_wsX40⟩)⟩)
set_option maxRecDepth 100000 in
theorem tw_769 : Cond.selects RX8 yX8_odds yX8_odds ∈ lw_tbl := List.mem_append_right _ (List.mem_append_right _ (List.mem_append_right _ (List.mem_append_left _ (List.mem_of_getElem? (i := 216) rfl))))
set_option maxRecDepth 100000 in
theorem tw_768 : Cond.instanceMethod yX8_odds ∈ lw_tbl := List.mem_append_right _ (List.mem_append_right _ (List.mem_append_right _ (List.mem_append_left _ (List.mem_of_getElem? (i := 215) rfl))))
set_option maxRecDepth 100000 in
theorem tw_767 : Cond.methodLink RL 109 yX8_odds ∈ lw_tbl := List.mem_append_right _ (List.mem_append_right _ (List.mem_append_right _ (List.mem_append_left _ (List.mem_of_getElem? (i := 214) rfl))))
set_option maxRecDepth 100000 in
theorem tw_1265 : Cond.code yX9_odds cX9_odds 6 (some .long) ∈ lw_tbl := List.mem_append_right _ (List.mem_append_right _ (List.mem_append_right _ (List.mem_append_right _ (List.mem_append_right _ (List.mem_append_left _ (List.mem_of_getElem? (i := 232) rfl))))))
set_option maxRecDepth 100000 in
theorem tw_1266 : Cond.constantLong RX9 245 (-9223372036854775808) ∈ lw_tbl := List.mem_append_right _ (List.mem_append_right _ (List.mem_append_right _ (List.mem_append_right _ (List.mem_append_right _ (List.mem_append_left _ (List.mem_of_getElem? (i := 233) rfl))))))
set_option maxRecDepth 100000 in
theorem dl_wsX9_odds_r1 : ∀ w ∈ wsX9_odds_r1, w ∈ lw_tbl := (List.forall_mem_cons.mpr ⟨tw_1266, (List.forall_mem_cons.mpr ⟨tw_1028, (List.forall_mem_cons.mpr ⟨tw_1030, (List.forall_mem_cons.mpr ⟨tw_26, (List.forall_mem_cons.mpr ⟨tw_83, (List.forall_mem_cons.mpr ⟨tw_1031, (List.forall_mem_cons.mpr ⟨tw_1032, (List.forall_mem_cons.mpr ⟨tw_1034, (List.forall_mem_cons.mpr ⟨tw_27, (List.forall_mem_cons.mpr ⟨tw_1035, (List.forall_mem_cons.mpr ⟨tw_907, (List.forall_mem_cons.mpr ⟨tw_1017, (List.forall_mem_cons.mpr ⟨tw_1018, (List.forall_mem_cons.mpr ⟨tw_1019, (List.forall_mem_cons.mpr ⟨tw_1122, (List.forall_mem_cons.mpr ⟨tw_1124, (List.forall_mem_cons.mpr ⟨tw_43, (List.forall_mem_cons.mpr ⟨tw_1125, (List.forall_mem_cons.mpr ⟨tw_1106, (List.forall_mem_cons.mpr ⟨tw_1108, (List.forall_mem_cons.mpr ⟨tw_40, (List.forall_mem_cons.mpr ⟨tw_1109, (List.forall_mem_cons.mpr ⟨tw_1110, (List.forall_mem_cons.mpr ⟨tw_1112, (fun _ h => absurd h List.not_mem_nil)⟩)⟩)⟩)⟩)⟩)⟩)⟩)⟩)⟩)⟩)⟩)⟩)⟩)⟩)⟩)⟩)⟩)⟩)⟩)⟩)⟩)⟩)⟩)⟩)
set_option maxRecDepth 100000 in
theorem tw_1269 : Cond.code yX9_asPart cX9_asPart 6 (some .long) ∈ lw_tbl := List.mem_append_right _ (List.mem_append_right _ (List.mem_append_right _ (List.mem_append_right _ (List.mem_append_right _ (List.mem_append_left _ (List.mem_of_getElem? (i := 236) rfl))))))
set_option maxRecDepth 100000 in
theorem tw_1268 : Cond.static yX9_asPart ∈ lw_tbl := List.mem_append_right _ (List.mem_append_right _ (List.mem_append_right _ (List.mem_append_right _ (List.mem_append_right _ (List.mem_append_left _ (List.mem_of_getElem? (i := 235) rfl))))))
set_option maxRecDepth 100000 in
theorem tw_1267 : Cond.methodLink RX9 247 yX9_asPart ∈ lw_tbl := List.mem_append_right _ (List.mem_append_right _ (List.mem_append_right _ (List.mem_append_right _ (List.mem_append_right _ (List.mem_append_left _ (List.mem_of_getElem? (i := 234) rfl))))))
set_option maxRecDepth 100000 in
theorem dl_wsX9_odds_r2 : ∀ w ∈ wsX9_odds_r2, w ∈ lw_tbl := (List.forall_mem_cons.mpr ⟨tw_41, (List.forall_mem_cons.mpr ⟨tw_1113, (List.forall_mem_cons.mpr ⟨tw_1085, (List.forall_mem_cons.mpr ⟨tw_115, (List.forall_mem_cons.mpr ⟨tw_77, (List.forall_mem_cons.mpr ⟨tw_116, (List.forall_mem_cons.mpr ⟨tw_1048, (List.forall_mem_cons.mpr ⟨tw_112, (List.forall_mem_cons.mpr ⟨tw_113, (List.forall_mem_cons.mpr ⟨tw_1114, (List.forall_mem_cons.mpr ⟨tw_1116, (List.forall_mem_cons.mpr ⟨tw_42, (List.forall_mem_cons.mpr ⟨tw_1117, (List.forall_mem_cons.mpr ⟨tw_1036, (List.forall_mem_cons.mpr ⟨tw_1038, (List.forall_mem_cons.mpr ⟨tw_28, (List.forall_mem_cons.mpr ⟨tw_1039, (List.forall_mem_cons.mpr ⟨tw_908, (List.forall_mem_cons.mpr ⟨tw_1267, (List.forall_mem_cons.mpr ⟨tw_1268, (List.forall_mem_cons.mpr ⟨tw_1269, (fun _ h => absurd h List.not_mem_nil)⟩)⟩)⟩)⟩)⟩)⟩)⟩)⟩)⟩)⟩)⟩)⟩)⟩)⟩)⟩)⟩)⟩)⟩)⟩)⟩)⟩)
set_option maxRecDepth 100000 in
theorem dl_wsX9_odds : ∀ w ∈ wsX9_odds, w ∈ lw_tbl := (List.forall_mem_cons.mpr ⟨tw_1265, (List.forall_mem_append.mpr ⟨(List.forall_mem_append.mpr ⟨dl_wsX9_odds_r1, dl_wsX9_odds_r2⟩), fu_wsX90⟩)⟩)
set_option maxRecDepth 100000 in
theorem tw_1264 : Cond.selects RX9 yX9_odds yX9_odds ∈ lw_tbl := List.mem_append_right _ (List.mem_append_right _ (List.mem_append_right _ (List.mem_append_right _ (List.mem_append_right _ (List.mem_append_left _ (List.mem_of_getElem? (i := 231) rfl))))))
set_option maxRecDepth 100000 in
theorem tw_1263 : Cond.instanceMethod yX9_odds ∈ lw_tbl := List.mem_append_right _ (List.mem_append_right _ (List.mem_append_right _ (List.mem_append_right _ (List.mem_append_right _ (List.mem_append_left _ (List.mem_of_getElem? (i := 230) rfl))))))
set_option maxRecDepth 100000 in
theorem tw_1262 : Cond.methodLink RL 113 yX9_odds ∈ lw_tbl := List.mem_append_right _ (List.mem_append_right _ (List.mem_append_right _ (List.mem_append_right _ (List.mem_append_right _ (List.mem_append_left _ (List.mem_of_getElem? (i := 229) rfl))))))
set_option maxRecDepth 100000 in
theorem tw_785 : Cond.code yX8_mean cX8_mean 2 (some .long) ∈ lw_tbl := List.mem_append_right _ (List.mem_append_right _ (List.mem_append_right _ (List.mem_append_left _ (List.mem_of_getElem? (i := 232) rfl))))
set_option maxRecDepth 100000 in
theorem tw_789 : Cond.code yX4_manyTwos cX4_manyTwos 1 (some .int) ∈ lw_tbl := List.mem_append_right _ (List.mem_append_right _ (List.mem_append_right _ (List.mem_append_left _ (List.mem_of_getElem? (i := 236) rfl))))
set_option maxRecDepth 100000 in
theorem tw_788 : Cond.selects RX4 yX4_manyTwos yX4_manyTwos ∈ lw_tbl := List.mem_append_right _ (List.mem_append_right _ (List.mem_append_right _ (List.mem_append_left _ (List.mem_of_getElem? (i := 235) rfl))))
set_option maxRecDepth 100000 in
theorem tw_787 : Cond.instanceMethod yX4_manyTwos ∈ lw_tbl := List.mem_append_right _ (List.mem_append_right _ (List.mem_append_right _ (List.mem_append_left _ (List.mem_of_getElem? (i := 234) rfl))))
set_option maxRecDepth 100000 in
theorem tw_786 : Cond.methodLink RX8 259 yX4_manyTwos ∈ lw_tbl := List.mem_append_right _ (List.mem_append_right _ (List.mem_append_right _ (List.mem_append_left _ (List.mem_of_getElem? (i := 233) rfl))))
set_option maxRecDepth 100000 in
theorem dl_wsX8_mean_r1 : ∀ w ∈ wsX8_mean_r1, w ∈ lw_tbl := (List.forall_mem_cons.mpr ⟨tw_291, (List.forall_mem_cons.mpr ⟨tw_163, (List.forall_mem_cons.mpr ⟨tw_594, (List.forall_mem_cons.mpr ⟨tw_595, (List.forall_mem_cons.mpr ⟨tw_596, (List.forall_mem_cons.mpr ⟨tw_76, (List.forall_mem_cons.mpr ⟨tw_597, (List.forall_mem_cons.mpr ⟨tw_126, (List.forall_mem_cons.mpr ⟨tw_351, (List.forall_mem_cons.mpr ⟨tw_327, (List.forall_mem_cons.mpr ⟨tw_328, (List.forall_mem_cons.mpr ⟨tw_329, (List.forall_mem_cons.mpr ⟨tw_131, (List.forall_mem_cons.mpr ⟨tw_786, (List.forall_mem_cons.mpr ⟨tw_787, (List.forall_mem_cons.mpr ⟨tw_788, (List.forall_mem_cons.mpr ⟨tw_789, (List.forall_mem_cons.mpr ⟨tw_776, (List.forall_mem_cons.mpr ⟨tw_777, (List.forall_mem_cons.mpr ⟨tw_74, (List.forall_mem_cons.mpr ⟨tw_778, (List.forall_mem_cons.mpr ⟨tw_771, (List.forall_mem_cons.mpr ⟨tw_779, (List.forall_mem_cons.mpr ⟨tw_780, (fun _ h => absurd h List.not_mem_nil)⟩)⟩)⟩)⟩)⟩)⟩)⟩)⟩)⟩)⟩)⟩)⟩)⟩)⟩)⟩)⟩)⟩)⟩)⟩)⟩)⟩)⟩)⟩)⟩)
set_option maxRecDepth 100000 in
theorem dl_wsX8_mean_r2 : ∀ w ∈ wsX8_mean_r2, w ∈ lw_tbl := (List.forall_mem_cons.mpr ⟨tw_781, (fun _ h => absurd h List.not_mem_nil)⟩)
set_option maxRecDepth 100000 in
theorem dl_wsX8_mean : ∀ w ∈ wsX8_mean, w ∈ lw_tbl := (List.forall_mem_cons.mpr ⟨tw_785, (List.forall_mem_append.mpr ⟨(List.forall_mem_append.mpr ⟨(List.forall_mem_append.mpr ⟨(List.forall_mem_append.mpr ⟨dl_wsX8_mean_r1, dl_wsX8_mean_r2⟩), fu_wsX80⟩), fu_wsX20⟩), fu_wsX40⟩)⟩)
set_option maxRecDepth 100000 in
theorem tw_784 : Cond.selects RX8 yX8_mean yX8_mean ∈ lw_tbl := List.mem_append_right _ (List.mem_append_right _ (List.mem_append_right _ (List.mem_append_left _ (List.mem_of_getElem? (i := 231) rfl))))
set_option maxRecDepth 100000 in
theorem tw_783 : Cond.instanceMethod yX8_mean ∈ lw_tbl := List.mem_append_right _ (List.mem_append_right _ (List.mem_append_right _ (List.mem_append_left _ (List.mem_of_getElem? (i := 230) rfl))))
set_option maxRecDepth 100000 in
theorem tw_782 : Cond.methodLink RL 114 yX8_mean ∈ lw_tbl := List.mem_append_right _ (List.mem_append_right _ (List.mem_append_right _ (List.mem_append_left _ (List.mem_of_getElem? (i := 229) rfl))))
set_option maxRecDepth 100000 in
theorem tw_1273 : Cond.code yX9_mean cX9_mean 2 (some .long) ∈ lw_tbl := List.mem_append_right _ (List.mem_append_right _ (List.mem_append_right _ (List.mem_append_right _ (List.mem_append_right _ (List.mem_append_right _ (List.mem_of_getElem? (i := 0) rfl))))))
set_option maxRecDepth 100000 in
theorem dl_wsX9_mean : ∀ w ∈ wsX9_mean, w ∈ lw_tbl := (List.forall_mem_cons.mpr ⟨tw_1273, (List.forall_mem_append.mpr ⟨(List.forall_mem_cons.mpr ⟨tw_907, (List.forall_mem_cons.mpr ⟨tw_1266, (List.forall_mem_cons.mpr ⟨tw_1017, (List.forall_mem_cons.mpr ⟨tw_1018, (List.forall_mem_cons.mpr ⟨tw_83, (List.forall_mem_cons.mpr ⟨tw_1019, (List.forall_mem_cons.mpr ⟨tw_1138, (List.forall_mem_cons.mpr ⟨tw_1140, (List.forall_mem_cons.mpr ⟨tw_47, (List.forall_mem_cons.mpr ⟨tw_1141, (List.forall_mem_cons.mpr ⟨tw_1036, (List.forall_mem_cons.mpr ⟨tw_1038, (List.forall_mem_cons.mpr ⟨tw_28, (List.forall_mem_cons.mpr ⟨tw_1039, (List.forall_mem_cons.mpr ⟨tw_908, (List.forall_mem_cons.mpr ⟨tw_1267, (List.forall_mem_cons.mpr ⟨tw_1268, (List.forall_mem_cons.mpr ⟨tw_1269, (fun _ h => absurd h List.not_mem_nil)⟩)⟩)⟩)⟩)⟩)⟩)⟩)⟩)⟩)⟩)⟩)⟩)⟩)⟩)⟩)⟩)⟩)⟩), fu_wsX90⟩)⟩)
set_option maxRecDepth 100000 in
theorem tw_1272 : Cond.selects RX9 yX9_mean yX9_mean ∈ lw_tbl := List.mem_append_right _ (List.mem_append_right _ (List.mem_append_right _ (List.mem_append_right _ (List.mem_append_right _ (List.mem_append_left _ (List.mem_of_getElem? (i := 239) rfl))))))
set_option maxRecDepth 100000 in
theorem tw_1271 : Cond.instanceMethod yX9_mean ∈ lw_tbl := List.mem_append_right _ (List.mem_append_right _ (List.mem_append_right _ (List.mem_append_right _ (List.mem_append_right _ (List.mem_append_left _ (List.mem_of_getElem? (i := 238) rfl))))))
set_option maxRecDepth 100000 in
theorem tw_1270 : Cond.methodLink RL 118 yX9_mean ∈ lw_tbl := List.mem_append_right _ (List.mem_append_right _ (List.mem_append_right _ (List.mem_append_right _ (List.mem_append_right _ (List.mem_append_left _ (List.mem_of_getElem? (i := 237) rfl))))))
set_option maxRecDepth 100000 in
theorem tw_793 : Cond.code yX8_event cX8_event 3 (some .int) ∈ lw_tbl := List.mem_append_right _ (List.mem_append_right _ (List.mem_append_right _ (List.mem_append_right _ (List.mem_append_left _ (List.mem_of_getElem? (i := 0) rfl)))))
set_option maxRecDepth 100000 in
theorem tw_172 : Cond.fieldLink RX8 261 "TightHulls$Setup" "events" "LTightHulls$Rows;" ∈ lw_tbl := List.mem_append_right _ (List.mem_append_left _ (List.mem_of_getElem? (i := 99) rfl))
set_option maxRecDepth 100000 in
theorem dl_wsX8_event : ∀ w ∈ wsX8_event, w ∈ lw_tbl := (List.forall_mem_cons.mpr ⟨tw_793, (List.forall_mem_append.mpr ⟨(List.forall_mem_append.mpr ⟨(List.forall_mem_append.mpr ⟨(List.forall_mem_append.mpr ⟨(List.forall_mem_cons.mpr ⟨tw_291, (List.forall_mem_cons.mpr ⟨tw_172, (List.forall_mem_cons.mpr ⟨tw_163, (List.forall_mem_cons.mpr ⟨tw_149, (List.forall_mem_cons.mpr ⟨tw_744, (List.forall_mem_cons.mpr ⟨tw_745, (List.forall_mem_cons.mpr ⟨tw_746, (List.forall_mem_cons.mpr ⟨tw_78, (List.forall_mem_cons.mpr ⟨tw_747, (List.forall_mem_cons.mpr ⟨tw_147, (List.forall_mem_cons.mpr ⟨tw_360, (List.forall_mem_cons.mpr ⟨tw_361, (List.forall_mem_cons.mpr ⟨tw_362, (List.forall_mem_cons.mpr ⟨tw_76, (List.forall_mem_cons.mpr ⟨tw_363, (List.forall_mem_cons.mpr ⟨tw_126, (List.forall_mem_cons.mpr ⟨tw_748, (List.forall_mem_cons.mpr ⟨tw_749, (List.forall_mem_cons.mpr ⟨tw_750, (List.forall_mem_cons.mpr ⟨tw_751, (List.forall_mem_cons.mpr ⟨tw_145, (List.forall_mem_cons.mpr ⟨tw_146, (fun _ h => absurd h List.not_mem_nil)⟩)⟩)⟩)⟩)⟩)⟩)⟩)⟩)⟩)⟩)⟩)⟩)⟩)⟩)⟩)⟩)⟩)⟩)⟩)⟩)⟩)⟩), fu_wsX80⟩), fu_wsX20⟩), fu_wsX10⟩), fu_wsX40⟩)⟩)
set_option maxRecDepth 100000 in
theorem tw_792 : Cond.selects RX8 yX8_event yX8_event ∈ lw_tbl := List.mem_append_right _ (List.mem_append_right _ (List.mem_append_right _ (List.mem_append_left _ (List.mem_of_getElem? (i := 239) rfl))))
set_option maxRecDepth 100000 in
theorem tw_791 : Cond.instanceMethod yX8_event ∈ lw_tbl := List.mem_append_right _ (List.mem_append_right _ (List.mem_append_right _ (List.mem_append_left _ (List.mem_of_getElem? (i := 238) rfl))))
set_option maxRecDepth 100000 in
theorem tw_790 : Cond.methodLink RL 119 yX8_event ∈ lw_tbl := List.mem_append_right _ (List.mem_append_right _ (List.mem_append_right _ (List.mem_append_left _ (List.mem_of_getElem? (i := 237) rfl))))
set_option maxRecDepth 100000 in
theorem tw_1277 : Cond.code yX9_event cX9_event 3 (some .int) ∈ lw_tbl := List.mem_append_right _ (List.mem_append_right _ (List.mem_append_right _ (List.mem_append_right _ (List.mem_append_right _ (List.mem_append_right _ (List.mem_of_getElem? (i := 4) rfl))))))
set_option maxRecDepth 100000 in
theorem tw_914 : Cond.fieldLink RX9 251 "TightHullsModel" "events" "I" ∈ lw_tbl := List.mem_append_right _ (List.mem_append_right _ (List.mem_append_right _ (List.mem_append_right _ (List.mem_append_left _ (List.mem_of_getElem? (i := 121) rfl)))))
set_option maxRecDepth 100000 in
theorem dl_wsX9_event : ∀ w ∈ wsX9_event, w ∈ lw_tbl := (List.forall_mem_cons.mpr ⟨tw_1277, (List.forall_mem_append.mpr ⟨(List.forall_mem_cons.mpr ⟨tw_914, (List.forall_mem_cons.mpr ⟨tw_915, (List.forall_mem_cons.mpr ⟨tw_916, (List.forall_mem_cons.mpr ⟨tw_1017, (List.forall_mem_cons.mpr ⟨tw_1018, (List.forall_mem_cons.mpr ⟨tw_83, (List.forall_mem_cons.mpr ⟨tw_1019, (List.forall_mem_cons.mpr ⟨tw_1032, (List.forall_mem_cons.mpr ⟨tw_1034, (List.forall_mem_cons.mpr ⟨tw_27, (List.forall_mem_cons.mpr ⟨tw_1035, (List.forall_mem_cons.mpr ⟨tw_907, (fun _ h => absurd h List.not_mem_nil)⟩)⟩)⟩)⟩)⟩)⟩)⟩)⟩)⟩)⟩)⟩)⟩), fu_wsX90⟩)⟩)
set_option maxRecDepth 100000 in
theorem tw_1276 : Cond.selects RX9 yX9_event yX9_event ∈ lw_tbl := List.mem_append_right _ (List.mem_append_right _ (List.mem_append_right _ (List.mem_append_right _ (List.mem_append_right _ (List.mem_append_right _ (List.mem_of_getElem? (i := 3) rfl))))))
set_option maxRecDepth 100000 in
theorem tw_1275 : Cond.instanceMethod yX9_event ∈ lw_tbl := List.mem_append_right _ (List.mem_append_right _ (List.mem_append_right _ (List.mem_append_right _ (List.mem_append_right _ (List.mem_append_right _ (List.mem_of_getElem? (i := 2) rfl))))))
set_option maxRecDepth 100000 in
theorem tw_1274 : Cond.methodLink RL 122 yX9_event ∈ lw_tbl := List.mem_append_right _ (List.mem_append_right _ (List.mem_append_right _ (List.mem_append_right _ (List.mem_append_right _ (List.mem_append_right _ (List.mem_of_getElem? (i := 1) rfl))))))
set_option maxRecDepth 100000 in
theorem tw_797 : Cond.code yX8_after cX8_after 2 (some .int) ∈ lw_tbl := List.mem_append_right _ (List.mem_append_right _ (List.mem_append_right _ (List.mem_append_right _ (List.mem_append_left _ (List.mem_of_getElem? (i := 4) rfl)))))
set_option maxRecDepth 100000 in
theorem tw_801 : Cond.code yX2_happenTo cX2_happenTo 4 none ∈ lw_tbl := List.mem_append_right _ (List.mem_append_right _ (List.mem_append_right _ (List.mem_append_right _ (List.mem_append_left _ (List.mem_of_getElem? (i := 8) rfl)))))
set_option maxRecDepth 100000 in
theorem tw_800 : Cond.selects RX2 yX2_happenTo yX2_happenTo ∈ lw_tbl := List.mem_append_right _ (List.mem_append_right _ (List.mem_append_right _ (List.mem_append_right _ (List.mem_append_left _ (List.mem_of_getElem? (i := 7) rfl)))))
set_option maxRecDepth 100000 in
theorem tw_799 : Cond.instanceMethod yX2_happenTo ∈ lw_tbl := List.mem_append_right _ (List.mem_append_right _ (List.mem_append_right _ (List.mem_append_right _ (List.mem_append_left _ (List.mem_of_getElem? (i := 6) rfl)))))
set_option maxRecDepth 100000 in
theorem tw_798 : Cond.methodLink RX8 264 yX2_happenTo ∈ lw_tbl := List.mem_append_right _ (List.mem_append_right _ (List.mem_append_right _ (List.mem_append_right _ (List.mem_append_left _ (List.mem_of_getElem? (i := 5) rfl)))))
set_option maxRecDepth 100000 in
theorem dl_wsX8_after_r1 : ∀ w ∈ wsX8_after_r1, w ∈ lw_tbl := (List.forall_mem_cons.mpr ⟨tw_294, (List.forall_mem_cons.mpr ⟨tw_291, (List.forall_mem_cons.mpr ⟨tw_163, (List.forall_mem_cons.mpr ⟨tw_295, (List.forall_mem_cons.mpr ⟨tw_205, (List.forall_mem_cons.mpr ⟨tw_340, (List.forall_mem_cons.mpr ⟨tw_341, (List.forall_mem_cons.mpr ⟨tw_342, (List.forall_mem_cons.mpr ⟨tw_76, (List.forall_mem_cons.mpr ⟨tw_343, (List.forall_mem_cons.mpr ⟨tw_126, (List.forall_mem_cons.mpr ⟨tw_131, (List.forall_mem_cons.mpr ⟨tw_344, (List.forall_mem_cons.mpr ⟨tw_346, (List.forall_mem_cons.mpr ⟨tw_345, (List.forall_mem_cons.mpr ⟨tw_84, (List.forall_mem_cons.mpr ⟨tw_798, (List.forall_mem_cons.mpr ⟨tw_799, (List.forall_mem_cons.mpr ⟨tw_800, (List.forall_mem_cons.mpr ⟨tw_75, (List.forall_mem_cons.mpr ⟨tw_801, (List.forall_mem_cons.mpr ⟨tw_171, (List.forall_mem_cons.mpr ⟨tw_148, (List.forall_mem_cons.mpr ⟨tw_761, (fun _ h => absurd h List.not_mem_nil)⟩)⟩)⟩)⟩)⟩)⟩)⟩)⟩)⟩)⟩)⟩)⟩)⟩)⟩)⟩)⟩)⟩)⟩)⟩)⟩)⟩)⟩)⟩)⟩)
set_option maxRecDepth 100000 in
theorem tw_804 : Cond.code yX2_moveAway cX2_moveAway 3 none ∈ lw_tbl := List.mem_append_right _ (List.mem_append_right _ (List.mem_append_right _ (List.mem_append_right _ (List.mem_append_left _ (List.mem_of_getElem? (i := 11) rfl)))))
set_option maxRecDepth 100000 in
theorem tw_803 : Cond.static yX2_moveAway ∈ lw_tbl := List.mem_append_right _ (List.mem_append_right _ (List.mem_append_right _ (List.mem_append_right _ (List.mem_append_left _ (List.mem_of_getElem? (i := 10) rfl)))))
set_option maxRecDepth 100000 in
theorem tw_802 : Cond.methodLink RX2 108 yX2_moveAway ∈ lw_tbl := List.mem_append_right _ (List.mem_append_right _ (List.mem_append_right _ (List.mem_append_right _ (List.mem_append_left _ (List.mem_of_getElem? (i := 9) rfl)))))
set_option maxRecDepth 100000 in
theorem dl_wsX8_after_r2 : ∀ w ∈ wsX8_after_r2, w ∈ lw_tbl := (List.forall_mem_cons.mpr ⟨tw_762, (List.forall_mem_cons.mpr ⟨tw_763, (List.forall_mem_cons.mpr ⟨tw_78, (List.forall_mem_cons.mpr ⟨tw_764, (List.forall_mem_cons.mpr ⟨tw_147, (List.forall_mem_cons.mpr ⟨tw_146, (List.forall_mem_cons.mpr ⟨tw_802, (List.forall_mem_cons.mpr ⟨tw_803, (List.forall_mem_cons.mpr ⟨tw_804, (List.forall_mem_cons.mpr ⟨tw_129, (List.forall_mem_cons.mpr ⟨tw_532, (List.forall_mem_cons.mpr ⟨tw_112, (List.forall_mem_cons.mpr ⟨tw_77, (List.forall_mem_cons.mpr ⟨tw_113, (List.forall_mem_cons.mpr ⟨tw_531, (List.forall_mem_cons.mpr ⟨tw_327, (List.forall_mem_cons.mpr ⟨tw_328, (List.forall_mem_cons.mpr ⟨tw_329, (List.forall_mem_cons.mpr ⟨tw_335, (List.forall_mem_cons.mpr ⟨tw_118, (List.forall_mem_cons.mpr ⟨tw_119, (List.forall_mem_cons.mpr ⟨tw_120, (List.forall_mem_cons.mpr ⟨tw_121, (List.forall_mem_cons.mpr ⟨tw_122, (fun _ h => absurd h List.not_mem_nil)⟩)⟩)⟩)⟩)⟩)⟩)⟩)⟩)⟩)⟩)⟩)⟩)⟩)⟩)⟩)⟩)⟩)⟩)⟩)⟩)⟩)⟩)⟩)⟩)
set_option maxRecDepth 100000 in
theorem tw_809 : Cond.methodLink RX2 115 yX4_takeShortWays ∈ lw_tbl := List.mem_append_right _ (List.mem_append_right _ (List.mem_append_right _ (List.mem_append_right _ (List.mem_append_left _ (List.mem_of_getElem? (i := 16) rfl)))))
set_option maxRecDepth 100000 in
theorem tw_808 : Cond.methodLink RX2 118 Lib.Math.max.name ∈ lw_tbl := List.mem_append_right _ (List.mem_append_right _ (List.mem_append_right _ (List.mem_append_right _ (List.mem_append_left _ (List.mem_of_getElem? (i := 15) rfl)))))
set_option maxRecDepth 100000 in
theorem tw_807 : Cond.code yX2_drawTogether cX2_drawTogether 4 none ∈ lw_tbl := List.mem_append_right _ (List.mem_append_right _ (List.mem_append_right _ (List.mem_append_right _ (List.mem_append_left _ (List.mem_of_getElem? (i := 14) rfl)))))
set_option maxRecDepth 100000 in
theorem tw_806 : Cond.static yX2_drawTogether ∈ lw_tbl := List.mem_append_right _ (List.mem_append_right _ (List.mem_append_right _ (List.mem_append_right _ (List.mem_append_left _ (List.mem_of_getElem? (i := 13) rfl)))))
set_option maxRecDepth 100000 in
theorem tw_805 : Cond.methodLink RX2 112 yX2_drawTogether ∈ lw_tbl := List.mem_append_right _ (List.mem_append_right _ (List.mem_append_right _ (List.mem_append_right _ (List.mem_append_left _ (List.mem_of_getElem? (i := 12) rfl)))))
set_option maxRecDepth 100000 in
theorem dl_wsX8_after_r3 : ∀ w ∈ wsX8_after_r3, w ∈ lw_tbl := (List.forall_mem_cons.mpr ⟨tw_123, (List.forall_mem_cons.mpr ⟨tw_124, (List.forall_mem_cons.mpr ⟨tw_805, (List.forall_mem_cons.mpr ⟨tw_806, (List.forall_mem_cons.mpr ⟨tw_807, (List.forall_mem_cons.mpr ⟨tw_808, (List.forall_mem_cons.mpr ⟨tw_115, (List.forall_mem_cons.mpr ⟨tw_116, (List.forall_mem_cons.mpr ⟨tw_809, (List.forall_mem_cons.mpr ⟨tw_348, (List.forall_mem_cons.mpr ⟨tw_349, (List.forall_mem_cons.mpr ⟨tw_350, (List.forall_mem_cons.mpr ⟨tw_111, (List.forall_mem_cons.mpr ⟨tw_351, (List.forall_mem_cons.mpr ⟨tw_117, (List.forall_mem_cons.mpr ⟨tw_576, (List.forall_mem_cons.mpr ⟨tw_396, (List.forall_mem_cons.mpr ⟨tw_397, (List.forall_mem_cons.mpr ⟨tw_398, (List.forall_mem_cons.mpr ⟨tw_399, (List.forall_mem_cons.mpr ⟨tw_400, (List.forall_mem_cons.mpr ⟨tw_401, (List.forall_mem_cons.mpr ⟨tw_402, (List.forall_mem_cons.mpr ⟨tw_577, (fun _ h => absurd h List.not_mem_nil)⟩)⟩)⟩)⟩)⟩)⟩)⟩)⟩)⟩)⟩)⟩)⟩)⟩)⟩)⟩)⟩)⟩)⟩)⟩)⟩)⟩)⟩)⟩)⟩)
set_option maxRecDepth 100000 in
theorem dl_wsX8_after_r4 : ∀ w ∈ wsX8_after_r4, w ∈ lw_tbl := (List.forall_mem_cons.mpr ⟨tw_578, (List.forall_mem_cons.mpr ⟨tw_74, (List.forall_mem_cons.mpr ⟨tw_579, (List.forall_mem_cons.mpr ⟨tw_581, (List.forall_mem_cons.mpr ⟨tw_582, (List.forall_mem_cons.mpr ⟨tw_583, (List.forall_mem_cons.mpr ⟨tw_584, (List.forall_mem_cons.mpr ⟨tw_585, (List.forall_mem_cons.mpr ⟨tw_586, (List.forall_mem_cons.mpr ⟨tw_588, (List.forall_mem_cons.mpr ⟨tw_22, (List.forall_mem_cons.mpr ⟨tw_589, (List.forall_mem_cons.mpr ⟨tw_114, (List.forall_mem_cons.mpr ⟨tw_546, (List.forall_mem_cons.mpr ⟨tw_547, (List.forall_mem_cons.mpr ⟨tw_548, (List.forall_mem_cons.mpr ⟨tw_79, (List.forall_mem_cons.mpr ⟨tw_549, (List.forall_mem_cons.mpr ⟨tw_199, (List.forall_mem_cons.mpr ⟨tw_198, (List.forall_mem_cons.mpr ⟨tw_204, (List.forall_mem_cons.mpr ⟨tw_127, (List.forall_mem_cons.mpr ⟨tw_550, (List.forall_mem_cons.mpr ⟨tw_390, (fun _ h => absurd h List.not_mem_nil)⟩)⟩)⟩)⟩)⟩)⟩)⟩)⟩)⟩)⟩)⟩)⟩)⟩)⟩)⟩)⟩)⟩)⟩)⟩)⟩)⟩)⟩)⟩)⟩)
set_option maxRecDepth 100000 in
theorem dl_wsX8_after_r5 : ∀ w ∈ wsX8_after_r5, w ∈ lw_tbl := (List.forall_mem_cons.mpr ⟨tw_391, (List.forall_mem_cons.mpr ⟨tw_392, (List.forall_mem_cons.mpr ⟨tw_393, (List.forall_mem_cons.mpr ⟨tw_353, (List.forall_mem_cons.mpr ⟨tw_354, (List.forall_mem_cons.mpr ⟨tw_355, (List.forall_mem_cons.mpr ⟨tw_551, (List.forall_mem_cons.mpr ⟨tw_552, (List.forall_mem_cons.mpr ⟨tw_553, (List.forall_mem_cons.mpr ⟨tw_554, (List.forall_mem_cons.mpr ⟨tw_555, (List.forall_mem_cons.mpr ⟨tw_556, (List.forall_mem_cons.mpr ⟨tw_558, (List.forall_mem_cons.mpr ⟨tw_19, (List.forall_mem_cons.mpr ⟨tw_559, (List.forall_mem_cons.mpr ⟨tw_560, (List.forall_mem_cons.mpr ⟨tw_562, (List.forall_mem_cons.mpr ⟨tw_20, (List.forall_mem_cons.mpr ⟨tw_563, (List.forall_mem_cons.mpr ⟨tw_202, (List.forall_mem_cons.mpr ⟨tw_200, (fun _ h => absurd h List.not_mem_nil)⟩)⟩)⟩)⟩)⟩)⟩)⟩)⟩)⟩)⟩)⟩)⟩)⟩)⟩)⟩)⟩)⟩)⟩)⟩)⟩)⟩)
set_option maxRecDepth 100000 in
theorem dl_wsX8_after : ∀ w ∈ wsX8_after, w ∈ lw_tbl := (List.forall_mem_cons.mpr ⟨tw_797, (List.forall_mem_append.mpr ⟨(List.forall_mem_append.mpr ⟨(List.forall_mem_append.mpr ⟨(List.forall_mem_append.mpr ⟨(List.forall_mem_append.mpr ⟨(List.forall_mem_append.mpr ⟨dl_wsX8_after_r1, (List.forall_mem_append.mpr ⟨dl_wsX8_after_r2, (List.forall_mem_append.mpr ⟨dl_wsX8_after_r3, (List.forall_mem_append.mpr ⟨dl_wsX8_after_r4, dl_wsX8_after_r5⟩)⟩)⟩)⟩), fu_wsX80⟩), fu_wsX20⟩), fu_wsX30⟩), fu_wsX40⟩), fu_wsX10⟩)⟩)
set_option maxRecDepth 100000 in
theorem tw_796 : Cond.selects RX8 yX8_after yX8_after ∈ lw_tbl := List.mem_append_right _ (List.mem_append_right _ (List.mem_append_right _ (List.mem_append_right _ (List.mem_append_left _ (List.mem_of_getElem? (i := 3) rfl)))))
set_option maxRecDepth 100000 in
theorem tw_795 : Cond.instanceMethod yX8_after ∈ lw_tbl := List.mem_append_right _ (List.mem_append_right _ (List.mem_append_right _ (List.mem_append_right _ (List.mem_append_left _ (List.mem_of_getElem? (i := 2) rfl)))))
set_option maxRecDepth 100000 in
theorem tw_794 : Cond.methodLink RL 123 yX8_after ∈ lw_tbl := List.mem_append_right _ (List.mem_append_right _ (List.mem_append_right _ (List.mem_append_right _ (List.mem_append_left _ (List.mem_of_getElem? (i := 1) rfl)))))
set_option maxRecDepth 100000 in
theorem tw_1281 : Cond.code yX9_after cX9_after 3 (some .int) ∈ lw_tbl := List.mem_append_right _ (List.mem_append_right _ (List.mem_append_right _ (List.mem_append_right _ (List.mem_append_right _ (List.mem_append_right _ (List.mem_of_getElem? (i := 8) rfl))))))
set_option maxRecDepth 100000 in
theorem tw_1285 : Cond.code yX9_happens cX9_happens 5 none ∈ lw_tbl := List.mem_append_right _ (List.mem_append_right _ (List.mem_append_right _ (List.mem_append_right _ (List.mem_append_right _ (List.mem_append_right _ (List.mem_of_getElem? (i := 12) rfl))))))
set_option maxRecDepth 100000 in
theorem tw_65 : Cond.selects RX9 yX9_happens yX9_happens ∈ lw_tbl := List.mem_append_left _ (List.mem_of_getElem? (i := 65) rfl)
set_option maxRecDepth 100000 in
theorem tw_1284 : Cond.instanceMethod yX9_happens ∈ lw_tbl := List.mem_append_right _ (List.mem_append_right _ (List.mem_append_right _ (List.mem_append_right _ (List.mem_append_right _ (List.mem_append_right _ (List.mem_of_getElem? (i := 11) rfl))))))
set_option maxRecDepth 100000 in
theorem tw_1282 : Cond.methodLink RX9 254 yX9_happens ∈ lw_tbl := List.mem_append_right _ (List.mem_append_right _ (List.mem_append_right _ (List.mem_append_right _ (List.mem_append_right _ (List.mem_append_right _ (List.mem_of_getElem? (i := 9) rfl))))))
set_option maxRecDepth 100000 in
theorem dl_wsX9_after_r1 : ∀ w ∈ wsX9_after_r1, w ∈ lw_tbl := (List.forall_mem_cons.mpr ⟨tw_914, (List.forall_mem_cons.mpr ⟨tw_915, (List.forall_mem_cons.mpr ⟨tw_916, (List.forall_mem_cons.mpr ⟨tw_1017, (List.forall_mem_cons.mpr ⟨tw_1018, (List.forall_mem_cons.mpr ⟨tw_83, (List.forall_mem_cons.mpr ⟨tw_1019, (List.forall_mem_cons.mpr ⟨tw_1094, (List.forall_mem_cons.mpr ⟨tw_1096, (List.forall_mem_cons.mpr ⟨tw_37, (List.forall_mem_cons.mpr ⟨tw_1097, (List.forall_mem_cons.mpr ⟨tw_928, (List.forall_mem_cons.mpr ⟨tw_908, (List.forall_mem_cons.mpr ⟨tw_1282, (List.forall_mem_cons.mpr ⟨tw_1284, (List.forall_mem_cons.mpr ⟨tw_65, (List.forall_mem_cons.mpr ⟨tw_1285, (List.forall_mem_cons.mpr ⟨tw_907, (List.forall_mem_cons.mpr ⟨tw_1085, (List.forall_mem_cons.mpr ⟨tw_115, (List.forall_mem_cons.mpr ⟨tw_77, (List.forall_mem_cons.mpr ⟨tw_116, (List.forall_mem_cons.mpr ⟨tw_1048, (List.forall_mem_cons.mpr ⟨tw_112, (fun _ h => absurd h List.not_mem_nil)⟩)⟩)⟩)⟩)⟩)⟩)⟩)⟩)⟩)⟩)⟩)⟩)⟩)⟩)⟩)⟩)⟩)⟩)⟩)⟩)⟩)⟩)⟩)⟩)
set_option maxRecDepth 100000 in
theorem dl_wsX9_after_r2 : ∀ w ∈ wsX9_after_r2, w ∈ lw_tbl := (List.forall_mem_cons.mpr ⟨tw_113, (List.forall_mem_cons.mpr ⟨tw_1044, (List.forall_mem_cons.mpr ⟨tw_1046, (List.forall_mem_cons.mpr ⟨tw_29, (List.forall_mem_cons.mpr ⟨tw_1047, (List.forall_mem_cons.mpr ⟨tw_927, (List.forall_mem_cons.mpr ⟨tw_1036, (List.forall_mem_cons.mpr ⟨tw_1038, (List.forall_mem_cons.mpr ⟨tw_28, (List.forall_mem_cons.mpr ⟨tw_1039, (List.forall_mem_cons.mpr ⟨tw_1020, (List.forall_mem_cons.mpr ⟨tw_1022, (List.forall_mem_cons.mpr ⟨tw_25, (List.forall_mem_cons.mpr ⟨tw_1023, (List.forall_mem_cons.mpr ⟨tw_1057, (List.forall_mem_cons.mpr ⟨tw_1059, (List.forall_mem_cons.mpr ⟨tw_30, (List.forall_mem_cons.mpr ⟨tw_1060, (List.forall_mem_cons.mpr ⟨tw_1122, (List.forall_mem_cons.mpr ⟨tw_1124, (List.forall_mem_cons.mpr ⟨tw_43, (List.forall_mem_cons.mpr ⟨tw_1125, (List.forall_mem_cons.mpr ⟨tw_1106, (List.forall_mem_cons.mpr ⟨tw_1108, (fun _ h => absurd h List.not_mem_nil)⟩)⟩)⟩)⟩)⟩)⟩)⟩)⟩)⟩)⟩)⟩)⟩)⟩)⟩)⟩)⟩)⟩)⟩)⟩)⟩)⟩)⟩)⟩)⟩)
set_option maxRecDepth 100000 in
theorem dl_wsX9_after_r3 : ∀ w ∈ wsX9_after_r3, w ∈ lw_tbl := (List.forall_mem_cons.mpr ⟨tw_40, (List.forall_mem_cons.mpr ⟨tw_1109, (List.forall_mem_cons.mpr ⟨tw_1110, (List.forall_mem_cons.mpr ⟨tw_1112, (List.forall_mem_cons.mpr ⟨tw_41, (List.forall_mem_cons.mpr ⟨tw_1113, (List.forall_mem_cons.mpr ⟨tw_1114, (List.forall_mem_cons.mpr ⟨tw_1116, (List.forall_mem_cons.mpr ⟨tw_42, (List.forall_mem_cons.mpr ⟨tw_1117, (List.forall_mem_cons.mpr ⟨tw_1126, (List.forall_mem_cons.mpr ⟨tw_1128, (List.forall_mem_cons.mpr ⟨tw_44, (List.forall_mem_cons.mpr ⟨tw_1129, (List.forall_mem_cons.mpr ⟨tw_1130, (List.forall_mem_cons.mpr ⟨tw_1132, (List.forall_mem_cons.mpr ⟨tw_45, (List.forall_mem_cons.mpr ⟨tw_1133, (List.forall_mem_cons.mpr ⟨tw_1098, (List.forall_mem_cons.mpr ⟨tw_1100, (List.forall_mem_cons.mpr ⟨tw_38, (List.forall_mem_cons.mpr ⟨tw_1101, (fun _ h => absurd h List.not_mem_nil)⟩)⟩)⟩)⟩)⟩)⟩)⟩)⟩)⟩)⟩)⟩)⟩)⟩)⟩)⟩)⟩)⟩)⟩)⟩)⟩)⟩)⟩)
set_option maxRecDepth 100000 in
theorem dl_wsX9_after : ∀ w ∈ wsX9_after, w ∈ lw_tbl := (List.forall_mem_cons.mpr ⟨tw_1281, (List.forall_mem_append.mpr ⟨(List.forall_mem_append.mpr ⟨dl_wsX9_after_r1, (List.forall_mem_append.mpr ⟨dl_wsX9_after_r2, dl_wsX9_after_r3⟩)⟩), fu_wsX90⟩)⟩)
set_option maxRecDepth 100000 in
theorem tw_1280 : Cond.selects RX9 yX9_after yX9_after ∈ lw_tbl := List.mem_append_right _ (List.mem_append_right _ (List.mem_append_right _ (List.mem_append_right _ (List.mem_append_right _ (List.mem_append_right _ (List.mem_of_getElem? (i := 7) rfl))))))
set_option maxRecDepth 100000 in
theorem tw_1279 : Cond.instanceMethod yX9_after ∈ lw_tbl := List.mem_append_right _ (List.mem_append_right _ (List.mem_append_right _ (List.mem_append_right _ (List.mem_append_right _ (List.mem_append_right _ (List.mem_of_getElem? (i := 6) rfl))))))
set_option maxRecDepth 100000 in
theorem tw_1278 : Cond.methodLink RL 126 yX9_after ∈ lw_tbl := List.mem_append_right _ (List.mem_append_right _ (List.mem_append_right _ (List.mem_append_right _ (List.mem_append_right _ (List.mem_append_right _ (List.mem_of_getElem? (i := 5) rfl))))))
set_option maxRecDepth 100000 in
theorem tw_813 : Cond.code yX8_book cX8_book 4 (some .int) ∈ lw_tbl := List.mem_append_right _ (List.mem_append_right _ (List.mem_append_right _ (List.mem_append_right _ (List.mem_append_left _ (List.mem_of_getElem? (i := 20) rfl)))))
set_option maxRecDepth 100000 in
theorem tw_174 : Cond.fieldLink RX8 267 "TightHulls$Setup" "book" "LTightHulls$Rows;" ∈ lw_tbl := List.mem_append_right _ (List.mem_append_left _ (List.mem_of_getElem? (i := 101) rfl))
set_option maxRecDepth 100000 in
theorem dl_wsX8_book : ∀ w ∈ wsX8_book, w ∈ lw_tbl := (List.forall_mem_cons.mpr ⟨tw_813, (List.forall_mem_append.mpr ⟨(List.forall_mem_append.mpr ⟨(List.forall_mem_append.mpr ⟨(List.forall_mem_append.mpr ⟨(List.forall_mem_cons.mpr ⟨tw_291, (List.forall_mem_cons.mpr ⟨tw_174, (List.forall_mem_cons.mpr ⟨tw_163, (List.forall_mem_cons.mpr ⟨tw_149, (List.forall_mem_cons.mpr ⟨tw_744, (List.forall_mem_cons.mpr ⟨tw_745, (List.forall_mem_cons.mpr ⟨tw_746, (List.forall_mem_cons.mpr ⟨tw_78, (List.forall_mem_cons.mpr ⟨tw_747, (List.forall_mem_cons.mpr ⟨tw_147, (List.forall_mem_cons.mpr ⟨tw_325, (List.forall_mem_cons.mpr ⟨tw_122, (List.forall_mem_cons.mpr ⟨tw_123, (List.forall_mem_cons.mpr ⟨tw_76, (List.forall_mem_cons.mpr ⟨tw_124, (List.forall_mem_cons.mpr ⟨tw_126, (List.forall_mem_cons.mpr ⟨tw_748, (List.forall_mem_cons.mpr ⟨tw_749, (List.forall_mem_cons.mpr ⟨tw_750, (List.forall_mem_cons.mpr ⟨tw_751, (List.forall_mem_cons.mpr ⟨tw_145, (List.forall_mem_cons.mpr ⟨tw_146, (fun _ h => absurd h List.not_mem_nil)⟩)⟩)⟩)⟩)⟩)⟩)⟩)⟩)⟩)⟩)⟩)⟩)⟩)⟩)⟩)⟩)⟩)⟩)⟩)⟩)⟩)⟩), fu_wsX80⟩), fu_wsX20⟩), fu_wsX10⟩), fu_wsX40⟩)⟩)
set_option maxRecDepth 100000 in
theorem tw_812 : Cond.selects RX8 yX8_book yX8_book ∈ lw_tbl := List.mem_append_right _ (List.mem_append_right _ (List.mem_append_right _ (List.mem_append_right _ (List.mem_append_left _ (List.mem_of_getElem? (i := 19) rfl)))))
set_option maxRecDepth 100000 in
theorem tw_811 : Cond.instanceMethod yX8_book ∈ lw_tbl := List.mem_append_right _ (List.mem_append_right _ (List.mem_append_right _ (List.mem_append_right _ (List.mem_append_left _ (List.mem_of_getElem? (i := 18) rfl)))))
set_option maxRecDepth 100000 in
theorem tw_810 : Cond.methodLink RL 127 yX8_book ∈ lw_tbl := List.mem_append_right _ (List.mem_append_right _ (List.mem_append_right _ (List.mem_append_right _ (List.mem_append_left _ (List.mem_of_getElem? (i := 17) rfl)))))
set_option maxRecDepth 100000 in
theorem tw_1289 : Cond.code yX9_book cX9_book 4 (some .int) ∈ lw_tbl := List.mem_append_right _ (List.mem_append_right _ (List.mem_append_right _ (List.mem_append_right _ (List.mem_append_right _ (List.mem_append_right _ (List.mem_of_getElem? (i := 16) rfl))))))
set_option maxRecDepth 100000 in
theorem tw_917 : Cond.fieldLink RX9 258 "TightHullsModel" "books" "I" ∈ lw_tbl := List.mem_append_right _ (List.mem_append_right _ (List.mem_append_right _ (List.mem_append_right _ (List.mem_append_left _ (List.mem_of_getElem? (i := 124) rfl)))))
set_option maxRecDepth 100000 in
theorem dl_wsX9_book : ∀ w ∈ wsX9_book, w ∈ lw_tbl := (List.forall_mem_cons.mpr ⟨tw_1289, (List.forall_mem_append.mpr ⟨(List.forall_mem_cons.mpr ⟨tw_917, (List.forall_mem_cons.mpr ⟨tw_918, (List.forall_mem_cons.mpr ⟨tw_919, (List.forall_mem_cons.mpr ⟨tw_920, (List.forall_mem_cons.mpr ⟨tw_1028, (List.forall_mem_cons.mpr ⟨tw_1030, (List.forall_mem_cons.mpr ⟨tw_26, (List.forall_mem_cons.mpr ⟨tw_83, (List.forall_mem_cons.mpr ⟨tw_1031, (List.forall_mem_cons.mpr ⟨tw_1032, (List.forall_mem_cons.mpr ⟨tw_1034, (List.forall_mem_cons.mpr ⟨tw_27, (List.forall_mem_cons.mpr ⟨tw_1035, (List.forall_mem_cons.mpr ⟨tw_907, (List.forall_mem_cons.mpr ⟨tw_1017, (List.forall_mem_cons.mpr ⟨tw_1018, (List.forall_mem_cons.mpr ⟨tw_1019, (fun _ h => absurd h List.not_mem_nil)⟩)⟩)⟩)⟩)⟩)⟩)⟩)⟩)⟩)⟩)⟩)⟩)⟩)⟩)⟩)⟩)⟩), fu_wsX90⟩)⟩)
set_option maxRecDepth 100000 in
theorem tw_1288 : Cond.selects RX9 yX9_book yX9_book ∈ lw_tbl := List.mem_append_right _ (List.mem_append_right _ (List.mem_append_right _ (List.mem_append_right _ (List.mem_append_right _ (List.mem_append_right _ (List.mem_of_getElem? (i := 15) rfl))))))
set_option maxRecDepth 100000 in
theorem tw_1287 : Cond.instanceMethod yX9_book ∈ lw_tbl := List.mem_append_right _ (List.mem_append_right _ (List.mem_append_right _ (List.mem_append_right _ (List.mem_append_right _ (List.mem_append_right _ (List.mem_of_getElem? (i := 14) rfl))))))
set_option maxRecDepth 100000 in
theorem tw_1286 : Cond.methodLink RL 130 yX9_book ∈ lw_tbl := List.mem_append_right _ (List.mem_append_right _ (List.mem_append_right _ (List.mem_append_right _ (List.mem_append_right _ (List.mem_append_right _ (List.mem_of_getElem? (i := 13) rfl))))))
set_option maxRecDepth 100000 in
theorem tw_817 : Cond.code yX8_looked cX8_looked 1 (some .int) ∈ lw_tbl := List.mem_append_right _ (List.mem_append_right _ (List.mem_append_right _ (List.mem_append_right _ (List.mem_append_left _ (List.mem_of_getElem? (i := 24) rfl)))))
set_option maxRecDepth 100000 in
theorem tw_821 : Cond.code yX2_firstWrongInBook cX2_firstWrongInBook 4 (some .int) ∈ lw_tbl := List.mem_append_right _ (List.mem_append_right _ (List.mem_append_right _ (List.mem_append_right _ (List.mem_append_left _ (List.mem_of_getElem? (i := 28) rfl)))))
set_option maxRecDepth 100000 in
theorem tw_820 : Cond.selects RX2 yX2_firstWrongInBook yX2_firstWrongInBook ∈ lw_tbl := List.mem_append_right _ (List.mem_append_right _ (List.mem_append_right _ (List.mem_append_right _ (List.mem_append_left _ (List.mem_of_getElem? (i := 27) rfl)))))
set_option maxRecDepth 100000 in
theorem tw_819 : Cond.instanceMethod yX2_firstWrongInBook ∈ lw_tbl := List.mem_append_right _ (List.mem_append_right _ (List.mem_append_right _ (List.mem_append_right _ (List.mem_append_left _ (List.mem_of_getElem? (i := 26) rfl)))))
set_option maxRecDepth 100000 in
theorem tw_818 : Cond.methodLink RX8 270 yX2_firstWrongInBook ∈ lw_tbl := List.mem_append_right _ (List.mem_append_right _ (List.mem_append_right _ (List.mem_append_right _ (List.mem_append_left _ (List.mem_of_getElem? (i := 25) rfl)))))
set_option maxRecDepth 100000 in
theorem dl_wsX8_looked_r1 : ∀ w ∈ wsX8_looked_r1, w ∈ lw_tbl := (List.forall_mem_cons.mpr ⟨tw_291, (List.forall_mem_cons.mpr ⟨tw_818, (List.forall_mem_cons.mpr ⟨tw_819, (List.forall_mem_cons.mpr ⟨tw_820, (List.forall_mem_cons.mpr ⟨tw_75, (List.forall_mem_cons.mpr ⟨tw_821, (List.forall_mem_cons.mpr ⟨tw_173, (List.forall_mem_cons.mpr ⟨tw_148, (List.forall_mem_cons.mpr ⟨tw_162, (List.forall_mem_cons.mpr ⟨tw_761, (List.forall_mem_cons.mpr ⟨tw_762, (List.forall_mem_cons.mpr ⟨tw_763, (List.forall_mem_cons.mpr ⟨tw_78, (List.forall_mem_cons.mpr ⟨tw_764, (List.forall_mem_cons.mpr ⟨tw_147, (List.forall_mem_cons.mpr ⟨tw_146, (List.forall_mem_cons.mpr ⟨tw_334, (List.forall_mem_cons.mpr ⟨tw_122, (List.forall_mem_cons.mpr ⟨tw_123, (List.forall_mem_cons.mpr ⟨tw_76, (List.forall_mem_cons.mpr ⟨tw_124, (List.forall_mem_cons.mpr ⟨tw_126, (List.forall_mem_cons.mpr ⟨tw_531, (List.forall_mem_cons.mpr ⟨tw_327, (fun _ h => absurd h List.not_mem_nil)⟩)⟩)⟩)⟩)⟩)⟩)⟩)⟩)⟩)⟩)⟩)⟩)⟩)⟩)⟩)⟩)⟩)⟩)⟩)⟩)⟩)⟩)⟩)⟩)
set_option maxRecDepth 100000 in
theorem dl_wsX8_looked_r2 : ∀ w ∈ wsX8_looked_r2, w ∈ lw_tbl := (List.forall_mem_cons.mpr ⟨tw_328, (List.forall_mem_cons.mpr ⟨tw_329, (List.forall_mem_cons.mpr ⟨tw_131, (fun _ h => absurd h List.not_mem_nil)⟩)⟩)⟩)
set_option maxRecDepth 100000 in
theorem dl_wsX8_looked : ∀ w ∈ wsX8_looked, w ∈ lw_tbl := (List.forall_mem_cons.mpr ⟨tw_817, (List.forall_mem_append.mpr ⟨(List.forall_mem_append.mpr ⟨(List.forall_mem_append.mpr ⟨(List.forall_mem_append.mpr ⟨(List.forall_mem_append.mpr ⟨dl_wsX8_looked_r1, dl_wsX8_looked_r2⟩), fu_wsX80⟩), fu_wsX20⟩), fu_wsX10⟩), fu_wsX40⟩)⟩)
set_option maxRecDepth 100000 in
theorem tw_816 : Cond.selects RX8 yX8_looked yX8_looked ∈ lw_tbl := List.mem_append_right _ (List.mem_append_right _ (List.mem_append_right _ (List.mem_append_right _ (List.mem_append_left _ (List.mem_of_getElem? (i := 23) rfl)))))
set_option maxRecDepth 100000 in
theorem tw_815 : Cond.instanceMethod yX8_looked ∈ lw_tbl := List.mem_append_right _ (List.mem_append_right _ (List.mem_append_right _ (List.mem_append_right _ (List.mem_append_left _ (List.mem_of_getElem? (i := 22) rfl)))))
set_option maxRecDepth 100000 in
theorem tw_814 : Cond.methodLink RL 131 yX8_looked ∈ lw_tbl := List.mem_append_right _ (List.mem_append_right _ (List.mem_append_right _ (List.mem_append_right _ (List.mem_append_left _ (List.mem_of_getElem? (i := 21) rfl)))))
set_option maxRecDepth 100000 in
theorem tw_1293 : Cond.code yX9_looked cX9_looked 2 (some .int) ∈ lw_tbl := List.mem_append_right _ (List.mem_append_right _ (List.mem_append_right _ (List.mem_append_right _ (List.mem_append_right _ (List.mem_append_right _ (List.mem_of_getElem? (i := 20) rfl))))))
set_option maxRecDepth 100000 in
theorem dl_wsX9_looked : ∀ w ∈ wsX9_looked, w ∈ lw_tbl := (List.forall_mem_cons.mpr ⟨tw_1293, (List.forall_mem_append.mpr ⟨(List.forall_mem_cons.mpr ⟨tw_917, (List.forall_mem_cons.mpr ⟨tw_918, (List.forall_mem_cons.mpr ⟨tw_919, (List.forall_mem_cons.mpr ⟨tw_920, (List.forall_mem_cons.mpr ⟨tw_1028, (List.forall_mem_cons.mpr ⟨tw_1030, (List.forall_mem_cons.mpr ⟨tw_26, (List.forall_mem_cons.mpr ⟨tw_83, (List.forall_mem_cons.mpr ⟨tw_1031, (List.forall_mem_cons.mpr ⟨tw_1032, (List.forall_mem_cons.mpr ⟨tw_1034, (List.forall_mem_cons.mpr ⟨tw_27, (List.forall_mem_cons.mpr ⟨tw_1035, (List.forall_mem_cons.mpr ⟨tw_907, (List.forall_mem_cons.mpr ⟨tw_1017, (List.forall_mem_cons.mpr ⟨tw_1018, (List.forall_mem_cons.mpr ⟨tw_1019, (List.forall_mem_cons.mpr ⟨tw_1036, (List.forall_mem_cons.mpr ⟨tw_1038, (List.forall_mem_cons.mpr ⟨tw_28, (List.forall_mem_cons.mpr ⟨tw_1039, (List.forall_mem_cons.mpr ⟨tw_908, (fun _ h => absurd h List.not_mem_nil)⟩)⟩)⟩)⟩)⟩)⟩)⟩)⟩)⟩)⟩)⟩)⟩)⟩)⟩)⟩)⟩)⟩)⟩)⟩)⟩)⟩)⟩), fu_wsX90⟩)⟩)
set_option maxRecDepth 100000 in
theorem tw_1292 : Cond.selects RX9 yX9_looked yX9_looked ∈ lw_tbl := List.mem_append_right _ (List.mem_append_right _ (List.mem_append_right _ (List.mem_append_right _ (List.mem_append_right _ (List.mem_append_right _ (List.mem_of_getElem? (i := 19) rfl))))))
set_option maxRecDepth 100000 in
theorem tw_1291 : Cond.instanceMethod yX9_looked ∈ lw_tbl := List.mem_append_right _ (List.mem_append_right _ (List.mem_append_right _ (List.mem_append_right _ (List.mem_append_right _ (List.mem_append_right _ (List.mem_of_getElem? (i := 18) rfl))))))
set_option maxRecDepth 100000 in
theorem tw_1290 : Cond.methodLink RL 134 yX9_looked ∈ lw_tbl := List.mem_append_right _ (List.mem_append_right _ (List.mem_append_right _ (List.mem_append_right _ (List.mem_append_right _ (List.mem_append_right _ (List.mem_of_getElem? (i := 17) rfl))))))
set_option maxRecDepth 100000 in
theorem tw_825 : Cond.code yX8_judge cX8_judge 3 (some .int) ∈ lw_tbl := List.mem_append_right _ (List.mem_append_right _ (List.mem_append_right _ (List.mem_append_right _ (List.mem_append_left _ (List.mem_of_getElem? (i := 32) rfl)))))
set_option maxRecDepth 100000 in
theorem tw_840 : Cond.instanceMethod yX5_hasItem ∈ lw_tbl := List.mem_append_right _ (List.mem_append_right _ (List.mem_append_right _ (List.mem_append_right _ (List.mem_append_left _ (List.mem_of_getElem? (i := 47) rfl)))))
set_option maxRecDepth 100000 in
theorem tw_839 : Cond.methodLink RX8 294 yX5_hasItem ∈ lw_tbl := List.mem_append_right _ (List.mem_append_right _ (List.mem_append_right _ (List.mem_append_right _ (List.mem_append_left _ (List.mem_of_getElem? (i := 46) rfl)))))
set_option maxRecDepth 100000 in
theorem tw_280 : Cond.fieldLink RX8 297 "TightHulls$Tapes" "items" "[[J" ∈ lw_tbl := List.mem_append_right _ (List.mem_append_left _ (List.mem_of_getElem? (i := 207) rfl))
set_option maxRecDepth 100000 in
theorem tw_838 : Cond.code yX8_judgeRow cX8_judgeRow 7 (some .int) ∈ lw_tbl := List.mem_append_right _ (List.mem_append_right _ (List.mem_append_right _ (List.mem_append_right _ (List.mem_append_left _ (List.mem_of_getElem? (i := 45) rfl)))))
set_option maxRecDepth 100000 in
theorem tw_24 : Cond.selects RX8 yX8_judgeRow yX8_judgeRow ∈ lw_tbl := List.mem_append_left _ (List.mem_of_getElem? (i := 24) rfl)
set_option maxRecDepth 100000 in
theorem tw_837 : Cond.instanceMethod yX8_judgeRow ∈ lw_tbl := List.mem_append_right _ (List.mem_append_right _ (List.mem_append_right _ (List.mem_append_right _ (List.mem_append_left _ (List.mem_of_getElem? (i := 44) rfl)))))
set_option maxRecDepth 100000 in
theorem tw_835 : Cond.methodLink RX8 280 yX8_judgeRow ∈ lw_tbl := List.mem_append_right _ (List.mem_append_right _ (List.mem_append_right _ (List.mem_append_right _ (List.mem_append_left _ (List.mem_of_getElem? (i := 42) rfl)))))
set_option maxRecDepth 100000 in
theorem tw_834 : Cond.methodLink RX5 21 yX5_has ∈ lw_tbl := List.mem_append_right _ (List.mem_append_right _ (List.mem_append_right _ (List.mem_append_right _ (List.mem_append_left _ (List.mem_of_getElem? (i := 41) rfl)))))
set_option maxRecDepth 100000 in
theorem tw_833 : Cond.code yX5_holdsNothing cX5_holdsNothing 2 (some .boolean) ∈ lw_tbl := List.mem_append_right _ (List.mem_append_right _ (List.mem_append_right _ (List.mem_append_right _ (List.mem_append_left _ (List.mem_of_getElem? (i := 40) rfl)))))
set_option maxRecDepth 100000 in
theorem tw_832 : Cond.selects RX5 yX5_holdsNothing yX5_holdsNothing ∈ lw_tbl := List.mem_append_right _ (List.mem_append_right _ (List.mem_append_right _ (List.mem_append_right _ (List.mem_append_left _ (List.mem_of_getElem? (i := 39) rfl)))))
set_option maxRecDepth 100000 in
theorem tw_831 : Cond.instanceMethod yX5_holdsNothing ∈ lw_tbl := List.mem_append_right _ (List.mem_append_right _ (List.mem_append_right _ (List.mem_append_right _ (List.mem_append_left _ (List.mem_of_getElem? (i := 38) rfl)))))
set_option maxRecDepth 100000 in
theorem tw_830 : Cond.methodLink RX8 274 yX5_holdsNothing ∈ lw_tbl := List.mem_append_right _ (List.mem_append_right _ (List.mem_append_right _ (List.mem_append_right _ (List.mem_append_left _ (List.mem_of_getElem? (i := 37) rfl)))))
set_option maxRecDepth 100000 in
theorem tw_829 : Cond.code yX5_has cX5_has 2 (some .boolean) ∈ lw_tbl := List.mem_append_right _ (List.mem_append_right _ (List.mem_append_right _ (List.mem_append_right _ (List.mem_append_left _ (List.mem_of_getElem? (i := 36) rfl)))))
set_option maxRecDepth 100000 in
theorem tw_828 : Cond.selects RX5 yX5_has yX5_has ∈ lw_tbl := List.mem_append_right _ (List.mem_append_right _ (List.mem_append_right _ (List.mem_append_right _ (List.mem_append_left _ (List.mem_of_getElem? (i := 35) rfl)))))
set_option maxRecDepth 100000 in
theorem tw_827 : Cond.instanceMethod yX5_has ∈ lw_tbl := List.mem_append_right _ (List.mem_append_right _ (List.mem_append_right _ (List.mem_append_right _ (List.mem_append_left _ (List.mem_of_getElem? (i := 34) rfl)))))
set_option maxRecDepth 100000 in
theorem tw_826 : Cond.methodLink RX8 273 yX5_has ∈ lw_tbl := List.mem_append_right _ (List.mem_append_right _ (List.mem_append_right _ (List.mem_append_right _ (List.mem_append_left _ (List.mem_of_getElem? (i := 33) rfl)))))
set_option maxRecDepth 100000 in
theorem tw_282 : Cond.fieldLink RX8 277 "TightHulls$Tapes" "sorts" "[I" ∈ lw_tbl := List.mem_append_right _ (List.mem_append_left _ (List.mem_of_getElem? (i := 209) rfl))
set_option maxRecDepth 100000 in
theorem dl_wsX8_judge_r1 : ∀ w ∈ wsX8_judge_r1, w ∈ lw_tbl := (List.forall_mem_cons.mpr ⟨tw_298, (List.forall_mem_cons.mpr ⟨tw_282, (List.forall_mem_cons.mpr ⟨tw_826, (List.forall_mem_cons.mpr ⟨tw_827, (List.forall_mem_cons.mpr ⟨tw_828, (List.forall_mem_cons.mpr ⟨tw_82, (List.forall_mem_cons.mpr ⟨tw_829, (List.forall_mem_cons.mpr ⟨tw_830, (List.forall_mem_cons.mpr ⟨tw_831, (List.forall_mem_cons.mpr ⟨tw_832, (List.forall_mem_cons.mpr ⟨tw_833, (List.forall_mem_cons.mpr ⟨tw_281, (List.forall_mem_cons.mpr ⟨tw_834, (List.forall_mem_cons.mpr ⟨tw_835, (List.forall_mem_cons.mpr ⟨tw_837, (List.forall_mem_cons.mpr ⟨tw_24, (List.forall_mem_cons.mpr ⟨tw_74, (List.forall_mem_cons.mpr ⟨tw_838, (List.forall_mem_cons.mpr ⟨tw_291, (List.forall_mem_cons.mpr ⟨tw_163, (List.forall_mem_cons.mpr ⟨tw_125, (List.forall_mem_cons.mpr ⟨tw_280, (List.forall_mem_cons.mpr ⟨tw_839, (List.forall_mem_cons.mpr ⟨tw_840, (fun _ h => absurd h List.not_mem_nil)⟩)⟩)⟩)⟩)⟩)⟩)⟩)⟩)⟩)⟩)⟩)⟩)⟩)⟩)⟩)⟩)⟩)⟩)⟩)⟩)⟩)⟩)⟩)⟩)
set_option maxRecDepth 100000 in
theorem tw_843 : Cond.methodLink RX5 25 yX5_holdsNothing ∈ lw_tbl := List.mem_append_right _ (List.mem_append_right _ (List.mem_append_right _ (List.mem_append_right _ (List.mem_append_left _ (List.mem_of_getElem? (i := 50) rfl)))))
set_option maxRecDepth 100000 in
theorem tw_842 : Cond.code yX5_hasItem cX5_hasItem 3 (some .boolean) ∈ lw_tbl := List.mem_append_right _ (List.mem_append_right _ (List.mem_append_right _ (List.mem_append_right _ (List.mem_append_left _ (List.mem_of_getElem? (i := 49) rfl)))))
set_option maxRecDepth 100000 in
theorem tw_841 : Cond.selects RX5 yX5_hasItem yX5_hasItem ∈ lw_tbl := List.mem_append_right _ (List.mem_append_right _ (List.mem_append_right _ (List.mem_append_right _ (List.mem_append_left _ (List.mem_of_getElem? (i := 48) rfl)))))
set_option maxRecDepth 100000 in
theorem dl_wsX8_judge_r2 : ∀ w ∈ wsX8_judge_r2, w ∈ lw_tbl := (List.forall_mem_cons.mpr ⟨tw_841, (List.forall_mem_cons.mpr ⟨tw_842, (List.forall_mem_cons.mpr ⟨tw_283, (List.forall_mem_cons.mpr ⟨tw_843, (List.forall_mem_cons.mpr ⟨tw_326, (List.forall_mem_cons.mpr ⟨tw_327, (List.forall_mem_cons.mpr ⟨tw_328, (List.forall_mem_cons.mpr ⟨tw_76, (List.forall_mem_cons.mpr ⟨tw_329, (List.forall_mem_cons.mpr ⟨tw_126, (List.forall_mem_cons.mpr ⟨tw_131, (fun _ h => absurd h List.not_mem_nil)⟩)⟩)⟩)⟩)⟩)⟩)⟩)⟩)⟩)⟩)⟩)
set_option maxRecDepth 100000 in
theorem dl_wsX8_judge : ∀ w ∈ wsX8_judge, w ∈ lw_tbl := (List.forall_mem_cons.mpr ⟨tw_825, (List.forall_mem_append.mpr ⟨(List.forall_mem_append.mpr ⟨(List.forall_mem_append.mpr ⟨(List.forall_mem_append.mpr ⟨(List.forall_mem_append.mpr ⟨dl_wsX8_judge_r1, dl_wsX8_judge_r2⟩), fu_wsX80⟩), fu_wsX50⟩), fu_wsX20⟩), fu_wsX40⟩)⟩)
set_option maxRecDepth 100000 in
theorem tw_824 : Cond.selects RX8 yX8_judge yX8_judge ∈ lw_tbl := List.mem_append_right _ (List.mem_append_right _ (List.mem_append_right _ (List.mem_append_right _ (List.mem_append_left _ (List.mem_of_getElem? (i := 31) rfl)))))
set_option maxRecDepth 100000 in
theorem tw_823 : Cond.instanceMethod yX8_judge ∈ lw_tbl := List.mem_append_right _ (List.mem_append_right _ (List.mem_append_right _ (List.mem_append_right _ (List.mem_append_left _ (List.mem_of_getElem? (i := 30) rfl)))))
set_option maxRecDepth 100000 in
theorem tw_822 : Cond.methodLink RL 135 yX8_judge ∈ lw_tbl := List.mem_append_right _ (List.mem_append_right _ (List.mem_append_right _ (List.mem_append_right _ (List.mem_append_left _ (List.mem_of_getElem? (i := 29) rfl)))))
set_option maxRecDepth 100000 in
theorem tw_1336 : Cond.code yX9_judge cX9_judge 6 (some .int) ∈ lw_tbl := List.mem_append_right _ (List.mem_append_right _ (List.mem_append_right _ (List.mem_append_right _ (List.mem_append_right _ (List.mem_append_right _ (List.mem_of_getElem? (i := 63) rfl))))))
set_option maxRecDepth 100000 in
theorem tw_1339 : Cond.code yX9_isTape cX9_isTape 1 (some .boolean) ∈ lw_tbl := List.mem_append_right _ (List.mem_append_right _ (List.mem_append_right _ (List.mem_append_right _ (List.mem_append_right _ (List.mem_append_right _ (List.mem_of_getElem? (i := 66) rfl))))))
set_option maxRecDepth 100000 in
theorem tw_1338 : Cond.static yX9_isTape ∈ lw_tbl := List.mem_append_right _ (List.mem_append_right _ (List.mem_append_right _ (List.mem_append_right _ (List.mem_append_right _ (List.mem_append_right _ (List.mem_of_getElem? (i := 65) rfl))))))
set_option maxRecDepth 100000 in
theorem tw_1337 : Cond.methodLink RX9 300 yX9_isTape ∈ lw_tbl := List.mem_append_right _ (List.mem_append_right _ (List.mem_append_right _ (List.mem_append_right _ (List.mem_append_right _ (List.mem_append_right _ (List.mem_of_getElem? (i := 64) rfl))))))
set_option maxRecDepth 100000 in
theorem dl_wsX9_judge : ∀ w ∈ wsX9_judge, w ∈ lw_tbl := (List.forall_mem_cons.mpr ⟨tw_1336, (List.forall_mem_append.mpr ⟨(List.forall_mem_cons.mpr ⟨tw_923, (List.forall_mem_cons.mpr ⟨tw_907, (List.forall_mem_cons.mpr ⟨tw_924, (List.forall_mem_cons.mpr ⟨tw_925, (List.forall_mem_cons.mpr ⟨tw_1337, (List.forall_mem_cons.mpr ⟨tw_1338, (List.forall_mem_cons.mpr ⟨tw_83, (List.forall_mem_cons.mpr ⟨tw_1339, (List.forall_mem_cons.mpr ⟨tw_1017, (List.forall_mem_cons.mpr ⟨tw_1018, (List.forall_mem_cons.mpr ⟨tw_1019, (List.forall_mem_cons.mpr ⟨tw_1036, (List.forall_mem_cons.mpr ⟨tw_1038, (List.forall_mem_cons.mpr ⟨tw_28, (List.forall_mem_cons.mpr ⟨tw_1039, (List.forall_mem_cons.mpr ⟨tw_908, (fun _ h => absurd h List.not_mem_nil)⟩)⟩)⟩)⟩)⟩)⟩)⟩)⟩)⟩)⟩)⟩)⟩)⟩)⟩)⟩)⟩), fu_wsX90⟩)⟩)
set_option maxRecDepth 100000 in
theorem tw_1335 : Cond.selects RX9 yX9_judge yX9_judge ∈ lw_tbl := List.mem_append_right _ (List.mem_append_right _ (List.mem_append_right _ (List.mem_append_right _ (List.mem_append_right _ (List.mem_append_right _ (List.mem_of_getElem? (i := 62) rfl))))))
set_option maxRecDepth 100000 in
theorem tw_1334 : Cond.instanceMethod yX9_judge ∈ lw_tbl := List.mem_append_right _ (List.mem_append_right _ (List.mem_append_right _ (List.mem_append_right _ (List.mem_append_right _ (List.mem_append_right _ (List.mem_of_getElem? (i := 61) rfl))))))
set_option maxRecDepth 100000 in
theorem tw_1333 : Cond.methodLink RL 138 yX9_judge ∈ lw_tbl := List.mem_append_right _ (List.mem_append_right _ (List.mem_append_right _ (List.mem_append_right _ (List.mem_append_right _ (List.mem_append_right _ (List.mem_of_getElem? (i := 60) rfl))))))
set_option maxRecDepth 100000 in
theorem tw_847 : Cond.code yX8_image cX8_image 1 (some .int) ∈ lw_tbl := List.mem_append_right _ (List.mem_append_right _ (List.mem_append_right _ (List.mem_append_right _ (List.mem_append_left _ (List.mem_of_getElem? (i := 54) rfl)))))
set_option maxRecDepth 100000 in
theorem tw_852 : Cond.methodLink RX2 44 yX4_become ∈ lw_tbl := List.mem_append_right _ (List.mem_append_right _ (List.mem_append_right _ (List.mem_append_right _ (List.mem_append_left _ (List.mem_of_getElem? (i := 59) rfl)))))
set_option maxRecDepth 100000 in
theorem tw_853 : Cond.methodLink RX2 48 arraycopyName ∈ lw_tbl := List.mem_append_right _ (List.mem_append_right _ (List.mem_append_right _ (List.mem_append_right _ (List.mem_append_left _ (List.mem_of_getElem? (i := 60) rfl)))))
set_option maxRecDepth 100000 in
theorem tw_851 : Cond.code yX2_become cX2_become 2 none ∈ lw_tbl := List.mem_append_right _ (List.mem_append_right _ (List.mem_append_right _ (List.mem_append_right _ (List.mem_append_left _ (List.mem_of_getElem? (i := 58) rfl)))))
set_option maxRecDepth 100000 in
theorem tw_850 : Cond.selects RX2 yX2_become yX2_become ∈ lw_tbl := List.mem_append_right _ (List.mem_append_right _ (List.mem_append_right _ (List.mem_append_right _ (List.mem_append_left _ (List.mem_of_getElem? (i := 57) rfl)))))
set_option maxRecDepth 100000 in
theorem tw_849 : Cond.instanceMethod yX2_become ∈ lw_tbl := List.mem_append_right _ (List.mem_append_right _ (List.mem_append_right _ (List.mem_append_right _ (List.mem_append_left _ (List.mem_of_getElem? (i := 56) rfl)))))
set_option maxRecDepth 100000 in
theorem tw_848 : Cond.methodLink RX8 283 yX2_become ∈ lw_tbl := List.mem_append_right _ (List.mem_append_right _ (List.mem_append_right _ (List.mem_append_right _ (List.mem_append_left _ (List.mem_of_getElem? (i := 55) rfl)))))
set_option maxRecDepth 100000 in
theorem dl_wsX8_image_r1 : ∀ w ∈ wsX8_image_r1, w ∈ lw_tbl := (List.forall_mem_cons.mpr ⟨tw_292, (List.forall_mem_cons.mpr ⟨tw_291, (List.forall_mem_cons.mpr ⟨tw_293, (List.forall_mem_cons.mpr ⟨tw_163, (List.forall_mem_cons.mpr ⟨tw_848, (List.forall_mem_cons.mpr ⟨tw_849, (List.forall_mem_cons.mpr ⟨tw_850, (List.forall_mem_cons.mpr ⟨tw_75, (List.forall_mem_cons.mpr ⟨tw_851, (List.forall_mem_cons.mpr ⟨tw_162, (List.forall_mem_cons.mpr ⟨tw_165, (List.forall_mem_cons.mpr ⟨tw_853, (List.forall_mem_cons.mpr ⟨tw_346, (List.forall_mem_cons.mpr ⟨tw_345, (List.forall_mem_cons.mpr ⟨tw_84, (List.forall_mem_cons.mpr ⟨tw_167, (List.forall_mem_cons.mpr ⟨tw_169, (List.forall_mem_cons.mpr ⟨tw_171, (List.forall_mem_cons.mpr ⟨tw_173, (List.forall_mem_cons.mpr ⟨tw_852, (List.forall_mem_cons.mpr ⟨tw_341, (List.forall_mem_cons.mpr ⟨tw_342, (List.forall_mem_cons.mpr ⟨tw_76, (List.forall_mem_cons.mpr ⟨tw_343, (fun _ h => absurd h List.not_mem_nil)⟩)⟩)⟩)⟩)⟩)⟩)⟩)⟩)⟩)⟩)⟩)⟩)⟩)⟩)⟩)⟩)⟩)⟩)⟩)⟩)⟩)⟩)⟩)⟩)
set_option maxRecDepth 100000 in
theorem tw_859 : Cond.methodLink RX1 29 yX1_add ∈ lw_tbl := List.mem_append_right _ (List.mem_append_right _ (List.mem_append_right _ (List.mem_append_right _ (List.mem_append_left _ (List.mem_of_getElem? (i := 66) rfl)))))
set_option maxRecDepth 100000 in
theorem tw_858 : Cond.methodLink RX1 26 yX1_cell ∈ lw_tbl := List.mem_append_right _ (List.mem_append_right _ (List.mem_append_right _ (List.mem_append_right _ (List.mem_append_left _ (List.mem_of_getElem? (i := 65) rfl)))))
set_option maxRecDepth 100000 in
theorem tw_857 : Cond.code yX1_become cX1_become 3 none ∈ lw_tbl := List.mem_append_right _ (List.mem_append_right _ (List.mem_append_right _ (List.mem_append_right _ (List.mem_append_left _ (List.mem_of_getElem? (i := 64) rfl)))))
set_option maxRecDepth 100000 in
theorem tw_856 : Cond.selects RX1 yX1_become yX1_become ∈ lw_tbl := List.mem_append_right _ (List.mem_append_right _ (List.mem_append_right _ (List.mem_append_right _ (List.mem_append_left _ (List.mem_of_getElem? (i := 63) rfl)))))
set_option maxRecDepth 100000 in
theorem tw_855 : Cond.instanceMethod yX1_become ∈ lw_tbl := List.mem_append_right _ (List.mem_append_right _ (List.mem_append_right _ (List.mem_append_right _ (List.mem_append_left _ (List.mem_of_getElem? (i := 62) rfl)))))
set_option maxRecDepth 100000 in
theorem tw_854 : Cond.methodLink RX2 54 yX1_become ∈ lw_tbl := List.mem_append_right _ (List.mem_append_right _ (List.mem_append_right _ (List.mem_append_right _ (List.mem_append_left _ (List.mem_of_getElem? (i := 61) rfl)))))
set_option maxRecDepth 100000 in
theorem dl_wsX8_image_r2 : ∀ w ∈ wsX8_image_r2, w ∈ lw_tbl := (List.forall_mem_cons.mpr ⟨tw_126, (List.forall_mem_cons.mpr ⟨tw_131, (List.forall_mem_cons.mpr ⟨tw_344, (List.forall_mem_cons.mpr ⟨tw_854, (List.forall_mem_cons.mpr ⟨tw_855, (List.forall_mem_cons.mpr ⟨tw_856, (List.forall_mem_cons.mpr ⟨tw_78, (List.forall_mem_cons.mpr ⟨tw_857, (List.forall_mem_cons.mpr ⟨tw_147, (List.forall_mem_cons.mpr ⟨tw_858, (List.forall_mem_cons.mpr ⟨tw_762, (List.forall_mem_cons.mpr ⟨tw_763, (List.forall_mem_cons.mpr ⟨tw_764, (List.forall_mem_cons.mpr ⟨tw_146, (List.forall_mem_cons.mpr ⟨tw_859, (List.forall_mem_cons.mpr ⟨tw_749, (List.forall_mem_cons.mpr ⟨tw_750, (List.forall_mem_cons.mpr ⟨tw_751, (List.forall_mem_cons.mpr ⟨tw_145, (List.forall_mem_cons.mpr ⟨tw_594, (List.forall_mem_cons.mpr ⟨tw_595, (List.forall_mem_cons.mpr ⟨tw_596, (List.forall_mem_cons.mpr ⟨tw_597, (List.forall_mem_cons.mpr ⟨tw_351, (fun _ h => absurd h List.not_mem_nil)⟩)⟩)⟩)⟩)⟩)⟩)⟩)⟩)⟩)⟩)⟩)⟩)⟩)⟩)⟩)⟩)⟩)⟩)⟩)⟩)⟩)⟩)⟩)⟩)
set_option maxRecDepth 100000 in
theorem dl_wsX8_image_r3 : ∀ w ∈ wsX8_image_r3, w ∈ lw_tbl := (List.forall_mem_cons.mpr ⟨tw_327, (List.forall_mem_cons.mpr ⟨tw_328, (List.forall_mem_cons.mpr ⟨tw_329, (fun _ h => absurd h List.not_mem_nil)⟩)⟩)⟩)
set_option maxRecDepth 100000 in
theorem dl_wsX8_image : ∀ w ∈ wsX8_image, w ∈ lw_tbl := (List.forall_mem_cons.mpr ⟨tw_847, (List.forall_mem_append.mpr ⟨(List.forall_mem_append.mpr ⟨(List.forall_mem_append.mpr ⟨(List.forall_mem_append.mpr ⟨(List.forall_mem_append.mpr ⟨dl_wsX8_image_r1, (List.forall_mem_append.mpr ⟨dl_wsX8_image_r2, dl_wsX8_image_r3⟩)⟩), fu_wsX80⟩), fu_wsX20⟩), fu_wsX40⟩), fu_wsX10⟩)⟩)
set_option maxRecDepth 100000 in
theorem tw_846 : Cond.selects RX8 yX8_image yX8_image ∈ lw_tbl := List.mem_append_right _ (List.mem_append_right _ (List.mem_append_right _ (List.mem_append_right _ (List.mem_append_left _ (List.mem_of_getElem? (i := 53) rfl)))))
set_option maxRecDepth 100000 in
theorem tw_845 : Cond.instanceMethod yX8_image ∈ lw_tbl := List.mem_append_right _ (List.mem_append_right _ (List.mem_append_right _ (List.mem_append_right _ (List.mem_append_left _ (List.mem_of_getElem? (i := 52) rfl)))))
set_option maxRecDepth 100000 in
theorem tw_844 : Cond.methodLink RL 139 yX8_image ∈ lw_tbl := List.mem_append_right _ (List.mem_append_right _ (List.mem_append_right _ (List.mem_append_right _ (List.mem_append_left _ (List.mem_of_getElem? (i := 51) rfl)))))
set_option maxRecDepth 100000 in
theorem tw_1343 : Cond.code yX9_image cX9_image 2 (some .int) ∈ lw_tbl := List.mem_append_right _ (List.mem_append_right _ (List.mem_append_right _ (List.mem_append_right _ (List.mem_append_right _ (List.mem_append_right _ (List.mem_of_getElem? (i := 70) rfl))))))
set_option maxRecDepth 100000 in
theorem tw_940 : Cond.fieldLink RX9 303 "TightHullsModel" "hasImage" "Z" ∈ lw_tbl := List.mem_append_right _ (List.mem_append_right _ (List.mem_append_right _ (List.mem_append_right _ (List.mem_append_left _ (List.mem_of_getElem? (i := 147) rfl)))))
set_option maxRecDepth 100000 in
theorem dl_wsX9_image_r1 : ∀ w ∈ wsX9_image_r1, w ∈ lw_tbl := (List.forall_mem_cons.mpr ⟨tw_940, (List.forall_mem_cons.mpr ⟨tw_941, (List.forall_mem_cons.mpr ⟨tw_908, (List.forall_mem_cons.mpr ⟨tw_909, (List.forall_mem_cons.mpr ⟨tw_910, (List.forall_mem_cons.mpr ⟨tw_912, (List.forall_mem_cons.mpr ⟨tw_913, (List.forall_mem_cons.mpr ⟨tw_915, (List.forall_mem_cons.mpr ⟨tw_916, (List.forall_mem_cons.mpr ⟨tw_918, (List.forall_mem_cons.mpr ⟨tw_919, (List.forall_mem_cons.mpr ⟨tw_920, (List.forall_mem_cons.mpr ⟨tw_907, (List.forall_mem_cons.mpr ⟨tw_911, (List.forall_mem_cons.mpr ⟨tw_914, (List.forall_mem_cons.mpr ⟨tw_917, (List.forall_mem_cons.mpr ⟨tw_1138, (List.forall_mem_cons.mpr ⟨tw_1140, (List.forall_mem_cons.mpr ⟨tw_47, (List.forall_mem_cons.mpr ⟨tw_83, (List.forall_mem_cons.mpr ⟨tw_1141, (List.forall_mem_cons.mpr ⟨tw_1036, (List.forall_mem_cons.mpr ⟨tw_1038, (List.forall_mem_cons.mpr ⟨tw_28, (fun _ h => absurd h List.not_mem_nil)⟩)⟩)⟩)⟩)⟩)⟩)⟩)⟩)⟩)⟩)⟩)⟩)⟩)⟩)⟩)⟩)⟩)⟩)⟩)⟩)⟩)⟩)⟩)⟩)
set_option maxRecDepth 100000 in
theorem dl_wsX9_image_r2 : ∀ w ∈ wsX9_image_r2, w ∈ lw_tbl := (List.forall_mem_cons.mpr ⟨tw_1039, (fun _ h => absurd h List.not_mem_nil)⟩)
set_option maxRecDepth 100000 in
theorem dl_wsX9_image : ∀ w ∈ wsX9_image, w ∈ lw_tbl := (List.forall_mem_cons.mpr ⟨tw_1343, (List.forall_mem_append.mpr ⟨(List.forall_mem_append.mpr ⟨dl_wsX9_image_r1, dl_wsX9_image_r2⟩), fu_wsX90⟩)⟩)
set_option maxRecDepth 100000 in
theorem tw_1342 : Cond.selects RX9 yX9_image yX9_image ∈ lw_tbl := List.mem_append_right _ (List.mem_append_right _ (List.mem_append_right _ (List.mem_append_right _ (List.mem_append_right _ (List.mem_append_right _ (List.mem_of_getElem? (i := 69) rfl))))))
set_option maxRecDepth 100000 in
theorem tw_1341 : Cond.instanceMethod yX9_image ∈ lw_tbl := List.mem_append_right _ (List.mem_append_right _ (List.mem_append_right _ (List.mem_append_right _ (List.mem_append_right _ (List.mem_append_right _ (List.mem_of_getElem? (i := 68) rfl))))))
set_option maxRecDepth 100000 in
theorem tw_1340 : Cond.methodLink RL 142 yX9_image ∈ lw_tbl := List.mem_append_right _ (List.mem_append_right _ (List.mem_append_right _ (List.mem_append_right _ (List.mem_append_right _ (List.mem_append_right _ (List.mem_of_getElem? (i := 67) rfl))))))
set_option maxRecDepth 100000 in
theorem tw_863 : Cond.code yX8_undo cX8_undo 1 (some .int) ∈ lw_tbl := List.mem_append_right _ (List.mem_append_right _ (List.mem_append_right _ (List.mem_append_right _ (List.mem_append_left _ (List.mem_of_getElem? (i := 70) rfl)))))
set_option maxRecDepth 100000 in
theorem dl_wsX8_undo_r1 : ∀ w ∈ wsX8_undo_r1, w ∈ lw_tbl := (List.forall_mem_cons.mpr ⟨tw_293, (List.forall_mem_cons.mpr ⟨tw_291, (List.forall_mem_cons.mpr ⟨tw_292, (List.forall_mem_cons.mpr ⟨tw_163, (List.forall_mem_cons.mpr ⟨tw_848, (List.forall_mem_cons.mpr ⟨tw_849, (List.forall_mem_cons.mpr ⟨tw_850, (List.forall_mem_cons.mpr ⟨tw_75, (List.forall_mem_cons.mpr ⟨tw_851, (List.forall_mem_cons.mpr ⟨tw_162, (List.forall_mem_cons.mpr ⟨tw_165, (List.forall_mem_cons.mpr ⟨tw_853, (List.forall_mem_cons.mpr ⟨tw_346, (List.forall_mem_cons.mpr ⟨tw_345, (List.forall_mem_cons.mpr ⟨tw_84, (List.forall_mem_cons.mpr ⟨tw_167, (List.forall_mem_cons.mpr ⟨tw_169, (List.forall_mem_cons.mpr ⟨tw_171, (List.forall_mem_cons.mpr ⟨tw_173, (List.forall_mem_cons.mpr ⟨tw_852, (List.forall_mem_cons.mpr ⟨tw_341, (List.forall_mem_cons.mpr ⟨tw_342, (List.forall_mem_cons.mpr ⟨tw_76, (List.forall_mem_cons.mpr ⟨tw_343, (fun _ h => absurd h List.not_mem_nil)⟩)⟩)⟩)⟩)⟩)⟩)⟩)⟩)⟩)⟩)⟩)⟩)⟩)⟩)⟩)⟩)⟩)⟩)⟩)⟩)⟩)⟩)⟩)⟩)
set_option maxRecDepth 100000 in
theorem dl_wsX8_undo_r2 : ∀ w ∈ wsX8_undo_r2, w ∈ lw_tbl := (List.forall_mem_cons.mpr ⟨tw_126, (List.forall_mem_cons.mpr ⟨tw_131, (List.forall_mem_cons.mpr ⟨tw_344, (List.forall_mem_cons.mpr ⟨tw_854, (List.forall_mem_cons.mpr ⟨tw_855, (List.forall_mem_cons.mpr ⟨tw_856, (List.forall_mem_cons.mpr ⟨tw_78, (List.forall_mem_cons.mpr ⟨tw_857, (List.forall_mem_cons.mpr ⟨tw_147, (List.forall_mem_cons.mpr ⟨tw_858, (List.forall_mem_cons.mpr ⟨tw_762, (List.forall_mem_cons.mpr ⟨tw_763, (List.forall_mem_cons.mpr ⟨tw_764, (List.forall_mem_cons.mpr ⟨tw_146, (List.forall_mem_cons.mpr ⟨tw_859, (List.forall_mem_cons.mpr ⟨tw_749, (List.forall_mem_cons.mpr ⟨tw_750, (List.forall_mem_cons.mpr ⟨tw_751, (List.forall_mem_cons.mpr ⟨tw_145, (List.forall_mem_cons.mpr ⟨tw_594, (List.forall_mem_cons.mpr ⟨tw_595, (List.forall_mem_cons.mpr ⟨tw_596, (List.forall_mem_cons.mpr ⟨tw_597, (List.forall_mem_cons.mpr ⟨tw_351, (fun _ h => absurd h List.not_mem_nil)⟩)⟩)⟩)⟩)⟩)⟩)⟩)⟩)⟩)⟩)⟩)⟩)⟩)⟩)⟩)⟩)⟩)⟩)⟩)⟩)⟩)⟩)⟩)⟩)
set_option maxRecDepth 100000 in
theorem dl_wsX8_undo_r3 : ∀ w ∈ wsX8_undo_r3, w ∈ lw_tbl := (List.forall_mem_cons.mpr ⟨tw_327, (List.forall_mem_cons.mpr ⟨tw_328, (List.forall_mem_cons.mpr ⟨tw_329, (fun _ h => absurd h List.not_mem_nil)⟩)⟩)⟩)
set_option maxRecDepth 100000 in
theorem dl_wsX8_undo : ∀ w ∈ wsX8_undo, w ∈ lw_tbl := (List.forall_mem_cons.mpr ⟨tw_863, (List.forall_mem_append.mpr ⟨(List.forall_mem_append.mpr ⟨(List.forall_mem_append.mpr ⟨(List.forall_mem_append.mpr ⟨(List.forall_mem_append.mpr ⟨dl_wsX8_undo_r1, (List.forall_mem_append.mpr ⟨dl_wsX8_undo_r2, dl_wsX8_undo_r3⟩)⟩), fu_wsX80⟩), fu_wsX20⟩), fu_wsX40⟩), fu_wsX10⟩)⟩)
set_option maxRecDepth 100000 in
theorem tw_862 : Cond.selects RX8 yX8_undo yX8_undo ∈ lw_tbl := List.mem_append_right _ (List.mem_append_right _ (List.mem_append_right _ (List.mem_append_right _ (List.mem_append_left _ (List.mem_of_getElem? (i := 69) rfl)))))
set_option maxRecDepth 100000 in
theorem tw_861 : Cond.instanceMethod yX8_undo ∈ lw_tbl := List.mem_append_right _ (List.mem_append_right _ (List.mem_append_right _ (List.mem_append_right _ (List.mem_append_left _ (List.mem_of_getElem? (i := 68) rfl)))))
set_option maxRecDepth 100000 in
theorem tw_860 : Cond.methodLink RL 143 yX8_undo ∈ lw_tbl := List.mem_append_right _ (List.mem_append_right _ (List.mem_append_right _ (List.mem_append_right _ (List.mem_append_left _ (List.mem_of_getElem? (i := 67) rfl)))))
set_option maxRecDepth 100000 in
theorem tw_1347 : Cond.code yX9_undo cX9_undo 2 (some .int) ∈ lw_tbl := List.mem_append_right _ (List.mem_append_right _ (List.mem_append_right _ (List.mem_append_right _ (List.mem_append_right _ (List.mem_append_right _ (List.mem_of_getElem? (i := 74) rfl))))))
set_option maxRecDepth 100000 in
theorem dl_wsX9_undo_r1 : ∀ w ∈ wsX9_undo_r1, w ∈ lw_tbl := (List.forall_mem_cons.mpr ⟨tw_940, (List.forall_mem_cons.mpr ⟨tw_908, (List.forall_mem_cons.mpr ⟨tw_941, (List.forall_mem_cons.mpr ⟨tw_909, (List.forall_mem_cons.mpr ⟨tw_910, (List.forall_mem_cons.mpr ⟨tw_912, (List.forall_mem_cons.mpr ⟨tw_913, (List.forall_mem_cons.mpr ⟨tw_915, (List.forall_mem_cons.mpr ⟨tw_916, (List.forall_mem_cons.mpr ⟨tw_918, (List.forall_mem_cons.mpr ⟨tw_919, (List.forall_mem_cons.mpr ⟨tw_920, (List.forall_mem_cons.mpr ⟨tw_907, (List.forall_mem_cons.mpr ⟨tw_911, (List.forall_mem_cons.mpr ⟨tw_914, (List.forall_mem_cons.mpr ⟨tw_917, (List.forall_mem_cons.mpr ⟨tw_1138, (List.forall_mem_cons.mpr ⟨tw_1140, (List.forall_mem_cons.mpr ⟨tw_47, (List.forall_mem_cons.mpr ⟨tw_83, (List.forall_mem_cons.mpr ⟨tw_1141, (List.forall_mem_cons.mpr ⟨tw_1036, (List.forall_mem_cons.mpr ⟨tw_1038, (List.forall_mem_cons.mpr ⟨tw_28, (fun _ h => absurd h List.not_mem_nil)⟩)⟩)⟩)⟩)⟩)⟩)⟩)⟩)⟩)⟩)⟩)⟩)⟩)⟩)⟩)⟩)⟩)⟩)⟩)⟩)⟩)⟩)⟩)⟩)
set_option maxRecDepth 100000 in
theorem dl_wsX9_undo_r2 : ∀ w ∈ wsX9_undo_r2, w ∈ lw_tbl := (List.forall_mem_cons.mpr ⟨tw_1039, (fun _ h => absurd h List.not_mem_nil)⟩)
set_option maxRecDepth 100000 in
theorem dl_wsX9_undo : ∀ w ∈ wsX9_undo, w ∈ lw_tbl := (List.forall_mem_cons.mpr ⟨tw_1347, (List.forall_mem_append.mpr ⟨(List.forall_mem_append.mpr ⟨dl_wsX9_undo_r1, dl_wsX9_undo_r2⟩), fu_wsX90⟩)⟩)
set_option maxRecDepth 100000 in
theorem tw_1346 : Cond.selects RX9 yX9_undo yX9_undo ∈ lw_tbl := List.mem_append_right _ (List.mem_append_right _ (List.mem_append_right _ (List.mem_append_right _ (List.mem_append_right _ (List.mem_append_right _ (List.mem_of_getElem? (i := 73) rfl))))))
set_option maxRecDepth 100000 in
theorem tw_1345 : Cond.instanceMethod yX9_undo ∈ lw_tbl := List.mem_append_right _ (List.mem_append_right _ (List.mem_append_right _ (List.mem_append_right _ (List.mem_append_right _ (List.mem_append_right _ (List.mem_of_getElem? (i := 72) rfl))))))
set_option maxRecDepth 100000 in
theorem tw_1344 : Cond.methodLink RL 146 yX9_undo ∈ lw_tbl := List.mem_append_right _ (List.mem_append_right _ (List.mem_append_right _ (List.mem_append_right _ (List.mem_append_right _ (List.mem_append_right _ (List.mem_of_getElem? (i := 71) rfl))))))
set_option maxRecDepth 100000 in
theorem tw_867 : Cond.code yX8_count cX8_count 2 (some .int) ∈ lw_tbl := List.mem_append_right _ (List.mem_append_right _ (List.mem_append_right _ (List.mem_append_right _ (List.mem_append_left _ (List.mem_of_getElem? (i := 74) rfl)))))
set_option maxRecDepth 100000 in
theorem dl_wsX8_count : ∀ w ∈ wsX8_count, w ∈ lw_tbl := (List.forall_mem_cons.mpr ⟨tw_867, (List.forall_mem_append.mpr ⟨(List.forall_mem_append.mpr ⟨(List.forall_mem_append.mpr ⟨(List.forall_mem_append.mpr ⟨(List.forall_mem_cons.mpr ⟨tw_291, (List.forall_mem_cons.mpr ⟨tw_170, (List.forall_mem_cons.mpr ⟨tw_149, (List.forall_mem_cons.mpr ⟨tw_172, (List.forall_mem_cons.mpr ⟨tw_174, (List.forall_mem_cons.mpr ⟨tw_297, (List.forall_mem_cons.mpr ⟨tw_258, (fun _ h => absurd h List.not_mem_nil)⟩)⟩)⟩)⟩)⟩)⟩)⟩), fu_wsX80⟩), fu_wsX20⟩), fu_wsX10⟩), fu_wsX60⟩)⟩)
set_option maxRecDepth 100000 in
theorem tw_866 : Cond.selects RX8 yX8_count yX8_count ∈ lw_tbl := List.mem_append_right _ (List.mem_append_right _ (List.mem_append_right _ (List.mem_append_right _ (List.mem_append_left _ (List.mem_of_getElem? (i := 73) rfl)))))
set_option maxRecDepth 100000 in
theorem tw_865 : Cond.instanceMethod yX8_count ∈ lw_tbl := List.mem_append_right _ (List.mem_append_right _ (List.mem_append_right _ (List.mem_append_right _ (List.mem_append_left _ (List.mem_of_getElem? (i := 72) rfl)))))
set_option maxRecDepth 100000 in
theorem tw_864 : Cond.methodLink RL 147 yX8_count ∈ lw_tbl := List.mem_append_right _ (List.mem_append_right _ (List.mem_append_right _ (List.mem_append_right _ (List.mem_append_left _ (List.mem_of_getElem? (i := 71) rfl)))))
set_option maxRecDepth 100000 in
theorem tw_1351 : Cond.code yX9_count cX9_count 2 (some .int) ∈ lw_tbl := List.mem_append_right _ (List.mem_append_right _ (List.mem_append_right _ (List.mem_append_right _ (List.mem_append_right _ (List.mem_append_right _ (List.mem_of_getElem? (i := 78) rfl))))))
set_option maxRecDepth 100000 in
theorem dl_wsX9_count : ∀ w ∈ wsX9_count, w ∈ lw_tbl := (List.forall_mem_cons.mpr ⟨tw_1351, (List.forall_mem_append.mpr ⟨(List.forall_mem_cons.mpr ⟨tw_911, (List.forall_mem_cons.mpr ⟨tw_914, (List.forall_mem_cons.mpr ⟨tw_917, (List.forall_mem_cons.mpr ⟨tw_922, (fun _ h => absurd h List.not_mem_nil)⟩)⟩)⟩)⟩), fu_wsX90⟩)⟩)
set_option maxRecDepth 100000 in
theorem tw_1350 : Cond.selects RX9 yX9_count yX9_count ∈ lw_tbl := List.mem_append_right _ (List.mem_append_right _ (List.mem_append_right _ (List.mem_append_right _ (List.mem_append_right _ (List.mem_append_right _ (List.mem_of_getElem? (i := 77) rfl))))))
set_option maxRecDepth 100000 in
theorem tw_1349 : Cond.instanceMethod yX9_count ∈ lw_tbl := List.mem_append_right _ (List.mem_append_right _ (List.mem_append_right _ (List.mem_append_right _ (List.mem_append_right _ (List.mem_append_right _ (List.mem_of_getElem? (i := 76) rfl))))))
set_option maxRecDepth 100000 in
theorem tw_1348 : Cond.methodLink RL 150 yX9_count ∈ lw_tbl := List.mem_append_right _ (List.mem_append_right _ (List.mem_append_right _ (List.mem_append_right _ (List.mem_append_right _ (List.mem_append_right _ (List.mem_of_getElem? (i := 75) rfl))))))
set_option maxRecDepth 100000 in
theorem tw_871 : Cond.code yX8_tape cX8_tape 4 (some .int) ∈ lw_tbl := List.mem_append_right _ (List.mem_append_right _ (List.mem_append_right _ (List.mem_append_right _ (List.mem_append_left _ (List.mem_of_getElem? (i := 78) rfl)))))
set_option maxRecDepth 100000 in
theorem tw_875 : Cond.code yX5_lay cX5_lay 5 (some .int) ∈ lw_tbl := List.mem_append_right _ (List.mem_append_right _ (List.mem_append_right _ (List.mem_append_right _ (List.mem_append_left _ (List.mem_of_getElem? (i := 82) rfl)))))
set_option maxRecDepth 100000 in
theorem tw_874 : Cond.selects RX5 yX5_lay yX5_lay ∈ lw_tbl := List.mem_append_right _ (List.mem_append_right _ (List.mem_append_right _ (List.mem_append_right _ (List.mem_append_left _ (List.mem_of_getElem? (i := 81) rfl)))))
set_option maxRecDepth 100000 in
theorem tw_873 : Cond.instanceMethod yX5_lay ∈ lw_tbl := List.mem_append_right _ (List.mem_append_right _ (List.mem_append_right _ (List.mem_append_right _ (List.mem_append_left _ (List.mem_of_getElem? (i := 80) rfl)))))
set_option maxRecDepth 100000 in
theorem tw_872 : Cond.methodLink RX8 286 yX5_lay ∈ lw_tbl := List.mem_append_right _ (List.mem_append_right _ (List.mem_append_right _ (List.mem_append_right _ (List.mem_append_left _ (List.mem_of_getElem? (i := 79) rfl)))))
set_option maxRecDepth 100000 in
theorem dl_wsX8_tape : ∀ w ∈ wsX8_tape, w ∈ lw_tbl := (List.forall_mem_cons.mpr ⟨tw_871, (List.forall_mem_append.mpr ⟨(List.forall_mem_append.mpr ⟨(List.forall_mem_cons.mpr ⟨tw_298, (List.forall_mem_cons.mpr ⟨tw_826, (List.forall_mem_cons.mpr ⟨tw_827, (List.forall_mem_cons.mpr ⟨tw_828, (List.forall_mem_cons.mpr ⟨tw_82, (List.forall_mem_cons.mpr ⟨tw_829, (List.forall_mem_cons.mpr ⟨tw_872, (List.forall_mem_cons.mpr ⟨tw_873, (List.forall_mem_cons.mpr ⟨tw_874, (List.forall_mem_cons.mpr ⟨tw_875, (List.forall_mem_cons.mpr ⟨tw_281, (List.forall_mem_cons.mpr ⟨tw_283, (List.forall_mem_cons.mpr ⟨tw_279, (fun _ h => absurd h List.not_mem_nil)⟩)⟩)⟩)⟩)⟩)⟩)⟩)⟩)⟩)⟩)⟩)⟩)⟩), fu_wsX80⟩), fu_wsX50⟩)⟩)
set_option maxRecDepth 100000 in
theorem tw_870 : Cond.selects RX8 yX8_tape yX8_tape ∈ lw_tbl := List.mem_append_right _ (List.mem_append_right _ (List.mem_append_right _ (List.mem_append_right _ (List.mem_append_left _ (List.mem_of_getElem? (i := 77) rfl)))))
set_option maxRecDepth 100000 in
theorem tw_869 : Cond.instanceMethod yX8_tape ∈ lw_tbl := List.mem_append_right _ (List.mem_append_right _ (List.mem_append_right _ (List.mem_append_right _ (List.mem_append_left _ (List.mem_of_getElem? (i := 76) rfl)))))
set_option maxRecDepth 100000 in
theorem tw_868 : Cond.methodLink RL 151 yX8_tape ∈ lw_tbl := List.mem_append_right _ (List.mem_append_right _ (List.mem_append_right _ (List.mem_append_right _ (List.mem_append_left _ (List.mem_of_getElem? (i := 75) rfl)))))
set_option maxRecDepth 100000 in
theorem tw_1355 : Cond.code yX9_tape cX9_tape 5 (some .int) ∈ lw_tbl := List.mem_append_right _ (List.mem_append_right _ (List.mem_append_right _ (List.mem_append_right _ (List.mem_append_right _ (List.mem_append_right _ (List.mem_of_getElem? (i := 82) rfl))))))
set_option maxRecDepth 100000 in
theorem dl_wsX9_tape : ∀ w ∈ wsX9_tape, w ∈ lw_tbl := (List.forall_mem_cons.mpr ⟨tw_1355, (List.forall_mem_append.mpr ⟨(List.forall_mem_cons.mpr ⟨tw_923, (List.forall_mem_cons.mpr ⟨tw_924, (List.forall_mem_cons.mpr ⟨tw_925, (List.forall_mem_cons.mpr ⟨tw_1337, (List.forall_mem_cons.mpr ⟨tw_1338, (List.forall_mem_cons.mpr ⟨tw_83, (List.forall_mem_cons.mpr ⟨tw_1339, (List.forall_mem_cons.mpr ⟨tw_1017, (List.forall_mem_cons.mpr ⟨tw_1018, (List.forall_mem_cons.mpr ⟨tw_1019, (fun _ h => absurd h List.not_mem_nil)⟩)⟩)⟩)⟩)⟩)⟩)⟩)⟩)⟩)⟩), fu_wsX90⟩)⟩)
set_option maxRecDepth 100000 in
theorem tw_1354 : Cond.selects RX9 yX9_tape yX9_tape ∈ lw_tbl := List.mem_append_right _ (List.mem_append_right _ (List.mem_append_right _ (List.mem_append_right _ (List.mem_append_right _ (List.mem_append_right _ (List.mem_of_getElem? (i := 81) rfl))))))
set_option maxRecDepth 100000 in
theorem tw_1353 : Cond.instanceMethod yX9_tape ∈ lw_tbl := List.mem_append_right _ (List.mem_append_right _ (List.mem_append_right _ (List.mem_append_right _ (List.mem_append_right _ (List.mem_append_right _ (List.mem_of_getElem? (i := 80) rfl))))))
set_option maxRecDepth 100000 in
theorem tw_1352 : Cond.methodLink RL 154 yX9_tape ∈ lw_tbl := List.mem_append_right _ (List.mem_append_right _ (List.mem_append_right _ (List.mem_append_right _ (List.mem_append_right _ (List.mem_append_right _ (List.mem_of_getElem? (i := 79) rfl))))))
set_option maxRecDepth 100000 in
theorem tw_879 : Cond.code yX8_item cX8_item 5 (some .int) ∈ lw_tbl := List.mem_append_right _ (List.mem_append_right _ (List.mem_append_right _ (List.mem_append_right _ (List.mem_append_left _ (List.mem_of_getElem? (i := 86) rfl)))))
set_option maxRecDepth 100000 in
theorem tw_885 : Cond.methodLink RX5 32 yX5_lowestBits ∈ lw_tbl := List.mem_append_right _ (List.mem_append_right _ (List.mem_append_right _ (List.mem_append_right _ (List.mem_append_left _ (List.mem_of_getElem? (i := 92) rfl)))))
set_option maxRecDepth 100000 in
theorem tw_884 : Cond.methodLink RX5 28 yX5_hasItem ∈ lw_tbl := List.mem_append_right _ (List.mem_append_right _ (List.mem_append_right _ (List.mem_append_right _ (List.mem_append_left _ (List.mem_of_getElem? (i := 91) rfl)))))
set_option maxRecDepth 100000 in
theorem tw_883 : Cond.code yX5_change cX5_change 5 (some .boolean) ∈ lw_tbl := List.mem_append_right _ (List.mem_append_right _ (List.mem_append_right _ (List.mem_append_right _ (List.mem_append_left _ (List.mem_of_getElem? (i := 90) rfl)))))
set_option maxRecDepth 100000 in
theorem tw_882 : Cond.selects RX5 yX5_change yX5_change ∈ lw_tbl := List.mem_append_right _ (List.mem_append_right _ (List.mem_append_right _ (List.mem_append_right _ (List.mem_append_left _ (List.mem_of_getElem? (i := 89) rfl)))))
set_option maxRecDepth 100000 in
theorem tw_881 : Cond.instanceMethod yX5_change ∈ lw_tbl := List.mem_append_right _ (List.mem_append_right _ (List.mem_append_right _ (List.mem_append_right _ (List.mem_append_left _ (List.mem_of_getElem? (i := 88) rfl)))))
set_option maxRecDepth 100000 in
theorem tw_880 : Cond.methodLink RX8 290 yX5_change ∈ lw_tbl := List.mem_append_right _ (List.mem_append_right _ (List.mem_append_right _ (List.mem_append_right _ (List.mem_append_left _ (List.mem_of_getElem? (i := 87) rfl)))))
set_option maxRecDepth 100000 in
theorem dl_wsX8_item_r1 : ∀ w ∈ wsX8_item_r1, w ∈ lw_tbl := (List.forall_mem_cons.mpr ⟨tw_298, (List.forall_mem_cons.mpr ⟨tw_826, (List.forall_mem_cons.mpr ⟨tw_827, (List.forall_mem_cons.mpr ⟨tw_828, (List.forall_mem_cons.mpr ⟨tw_82, (List.forall_mem_cons.mpr ⟨tw_829, (List.forall_mem_cons.mpr ⟨tw_830, (List.forall_mem_cons.mpr ⟨tw_831, (List.forall_mem_cons.mpr ⟨tw_832, (List.forall_mem_cons.mpr ⟨tw_833, (List.forall_mem_cons.mpr ⟨tw_281, (List.forall_mem_cons.mpr ⟨tw_834, (List.forall_mem_cons.mpr ⟨tw_880, (List.forall_mem_cons.mpr ⟨tw_881, (List.forall_mem_cons.mpr ⟨tw_882, (List.forall_mem_cons.mpr ⟨tw_883, (List.forall_mem_cons.mpr ⟨tw_279, (List.forall_mem_cons.mpr ⟨tw_884, (List.forall_mem_cons.mpr ⟨tw_840, (List.forall_mem_cons.mpr ⟨tw_841, (List.forall_mem_cons.mpr ⟨tw_842, (List.forall_mem_cons.mpr ⟨tw_283, (List.forall_mem_cons.mpr ⟨tw_843, (List.forall_mem_cons.mpr ⟨tw_885, (fun _ h => absurd h List.not_mem_nil)⟩)⟩)⟩)⟩)⟩)⟩)⟩)⟩)⟩)⟩)⟩)⟩)⟩)⟩)⟩)⟩)⟩)⟩)⟩)⟩)⟩)⟩)⟩)⟩)
set_option maxRecDepth 100000 in
theorem tw_887 : Cond.code yX5_lowestBits cX5_lowestBits 3 (some .long) ∈ lw_tbl := List.mem_append_right _ (List.mem_append_right _ (List.mem_append_right _ (List.mem_append_right _ (List.mem_append_left _ (List.mem_of_getElem? (i := 94) rfl)))))
set_option maxRecDepth 100000 in
theorem tw_886 : Cond.static yX5_lowestBits ∈ lw_tbl := List.mem_append_right _ (List.mem_append_right _ (List.mem_append_right _ (List.mem_append_right _ (List.mem_append_left _ (List.mem_of_getElem? (i := 93) rfl)))))
set_option maxRecDepth 100000 in
theorem dl_wsX8_item_r2 : ∀ w ∈ wsX8_item_r2, w ∈ lw_tbl := (List.forall_mem_cons.mpr ⟨tw_886, (List.forall_mem_cons.mpr ⟨tw_887, (fun _ h => absurd h List.not_mem_nil)⟩)⟩)
set_option maxRecDepth 100000 in
theorem dl_wsX8_item : ∀ w ∈ wsX8_item, w ∈ lw_tbl := (List.forall_mem_cons.mpr ⟨tw_879, (List.forall_mem_append.mpr ⟨(List.forall_mem_append.mpr ⟨(List.forall_mem_append.mpr ⟨dl_wsX8_item_r1, dl_wsX8_item_r2⟩), fu_wsX80⟩), fu_wsX50⟩)⟩)
set_option maxRecDepth 100000 in
theorem tw_878 : Cond.selects RX8 yX8_item yX8_item ∈ lw_tbl := List.mem_append_right _ (List.mem_append_right _ (List.mem_append_right _ (List.mem_append_right _ (List.mem_append_left _ (List.mem_of_getElem? (i := 85) rfl)))))
set_option maxRecDepth 100000 in
theorem tw_877 : Cond.instanceMethod yX8_item ∈ lw_tbl := List.mem_append_right _ (List.mem_append_right _ (List.mem_append_right _ (List.mem_append_right _ (List.mem_append_left _ (List.mem_of_getElem? (i := 84) rfl)))))
set_option maxRecDepth 100000 in
theorem tw_876 : Cond.methodLink RL 157 yX8_item ∈ lw_tbl := List.mem_append_right _ (List.mem_append_right _ (List.mem_append_right _ (List.mem_append_right _ (List.mem_append_left _ (List.mem_of_getElem? (i := 83) rfl)))))
set_option maxRecDepth 100000 in
theorem tw_1359 : Cond.code yX9_item cX9_item 5 (some .int) ∈ lw_tbl := List.mem_append_right _ (List.mem_append_right _ (List.mem_append_right _ (List.mem_append_right _ (List.mem_append_right _ (List.mem_append_right _ (List.mem_of_getElem? (i := 86) rfl))))))
set_option maxRecDepth 100000 in
theorem tw_1362 : Cond.code yX9_lowest cX9_lowest 3 (some .long) ∈ lw_tbl := List.mem_append_right _ (List.mem_append_right _ (List.mem_append_right _ (List.mem_append_right _ (List.mem_append_right _ (List.mem_append_right _ (List.mem_of_getElem? (i := 89) rfl))))))
set_option maxRecDepth 100000 in
theorem tw_1361 : Cond.static yX9_lowest ∈ lw_tbl := List.mem_append_right _ (List.mem_append_right _ (List.mem_append_right _ (List.mem_append_right _ (List.mem_append_right _ (List.mem_append_right _ (List.mem_of_getElem? (i := 88) rfl))))))
set_option maxRecDepth 100000 in
theorem tw_1360 : Cond.methodLink RX9 307 yX9_lowest ∈ lw_tbl := List.mem_append_right _ (List.mem_append_right _ (List.mem_append_right _ (List.mem_append_right _ (List.mem_append_right _ (List.mem_append_right _ (List.mem_of_getElem? (i := 87) rfl))))))
set_option maxRecDepth 100000 in
theorem dl_wsX9_item : ∀ w ∈ wsX9_item, w ∈ lw_tbl := (List.forall_mem_cons.mpr ⟨tw_1359, (List.forall_mem_append.mpr ⟨(List.forall_mem_cons.mpr ⟨tw_923, (List.forall_mem_cons.mpr ⟨tw_924, (List.forall_mem_cons.mpr ⟨tw_925, (List.forall_mem_cons.mpr ⟨tw_1337, (List.forall_mem_cons.mpr ⟨tw_1338, (List.forall_mem_cons.mpr ⟨tw_83, (List.forall_mem_cons.mpr ⟨tw_1339, (List.forall_mem_cons.mpr ⟨tw_1017, (List.forall_mem_cons.mpr ⟨tw_1018, (List.forall_mem_cons.mpr ⟨tw_1019, (List.forall_mem_cons.mpr ⟨tw_1360, (List.forall_mem_cons.mpr ⟨tw_1361, (List.forall_mem_cons.mpr ⟨tw_1362, (fun _ h => absurd h List.not_mem_nil)⟩)⟩)⟩)⟩)⟩)⟩)⟩)⟩)⟩)⟩)⟩)⟩)⟩), fu_wsX90⟩)⟩)
set_option maxRecDepth 100000 in
theorem tw_1358 : Cond.selects RX9 yX9_item yX9_item ∈ lw_tbl := List.mem_append_right _ (List.mem_append_right _ (List.mem_append_right _ (List.mem_append_right _ (List.mem_append_right _ (List.mem_append_right _ (List.mem_of_getElem? (i := 85) rfl))))))
set_option maxRecDepth 100000 in
theorem tw_1357 : Cond.instanceMethod yX9_item ∈ lw_tbl := List.mem_append_right _ (List.mem_append_right _ (List.mem_append_right _ (List.mem_append_right _ (List.mem_append_right _ (List.mem_append_right _ (List.mem_of_getElem? (i := 84) rfl))))))
set_option maxRecDepth 100000 in
theorem tw_1356 : Cond.methodLink RL 161 yX9_item ∈ lw_tbl := List.mem_append_right _ (List.mem_append_right _ (List.mem_append_right _ (List.mem_append_right _ (List.mem_append_right _ (List.mem_append_right _ (List.mem_of_getElem? (i := 83) rfl))))))
set_option maxRecDepth 100000 in
theorem tw_891 : Cond.code yX8_peek cX8_peek 3 (some .long) ∈ lw_tbl := List.mem_append_right _ (List.mem_append_right _ (List.mem_append_right _ (List.mem_append_right _ (List.mem_append_left _ (List.mem_of_getElem? (i := 98) rfl)))))
set_option maxRecDepth 100000 in
theorem dl_wsX8_peek : ∀ w ∈ wsX8_peek, w ∈ lw_tbl := (List.forall_mem_cons.mpr ⟨tw_891, (List.forall_mem_append.mpr ⟨(List.forall_mem_append.mpr ⟨(List.forall_mem_cons.mpr ⟨tw_298, (List.forall_mem_cons.mpr ⟨tw_280, (List.forall_mem_cons.mpr ⟨tw_771, (List.forall_mem_cons.mpr ⟨tw_839, (List.forall_mem_cons.mpr ⟨tw_840, (List.forall_mem_cons.mpr ⟨tw_841, (List.forall_mem_cons.mpr ⟨tw_82, (List.forall_mem_cons.mpr ⟨tw_842, (List.forall_mem_cons.mpr ⟨tw_283, (List.forall_mem_cons.mpr ⟨tw_843, (List.forall_mem_cons.mpr ⟨tw_831, (List.forall_mem_cons.mpr ⟨tw_832, (List.forall_mem_cons.mpr ⟨tw_833, (List.forall_mem_cons.mpr ⟨tw_281, (List.forall_mem_cons.mpr ⟨tw_834, (List.forall_mem_cons.mpr ⟨tw_827, (List.forall_mem_cons.mpr ⟨tw_828, (List.forall_mem_cons.mpr ⟨tw_829, (fun _ h => absurd h List.not_mem_nil)⟩)⟩)⟩)⟩)⟩)⟩)⟩)⟩)⟩)⟩)⟩)⟩)⟩)⟩)⟩)⟩)⟩)⟩), fu_wsX80⟩), fu_wsX50⟩)⟩)
set_option maxRecDepth 100000 in
theorem tw_890 : Cond.selects RX8 yX8_peek yX8_peek ∈ lw_tbl := List.mem_append_right _ (List.mem_append_right _ (List.mem_append_right _ (List.mem_append_right _ (List.mem_append_left _ (List.mem_of_getElem? (i := 97) rfl)))))
set_option maxRecDepth 100000 in
theorem tw_889 : Cond.instanceMethod yX8_peek ∈ lw_tbl := List.mem_append_right _ (List.mem_append_right _ (List.mem_append_right _ (List.mem_append_right _ (List.mem_append_left _ (List.mem_of_getElem? (i := 96) rfl)))))
set_option maxRecDepth 100000 in
theorem tw_888 : Cond.methodLink RL 162 yX8_peek ∈ lw_tbl := List.mem_append_right _ (List.mem_append_right _ (List.mem_append_right _ (List.mem_append_right _ (List.mem_append_left _ (List.mem_of_getElem? (i := 95) rfl)))))
set_option maxRecDepth 100000 in
theorem tw_1366 : Cond.code yX9_peek cX9_peek 3 (some .long) ∈ lw_tbl := List.mem_append_right _ (List.mem_append_right _ (List.mem_append_right _ (List.mem_append_right _ (List.mem_append_right _ (List.mem_append_right _ (List.mem_of_getElem? (i := 93) rfl))))))
set_option maxRecDepth 100000 in
theorem dl_wsX9_peek : ∀ w ∈ wsX9_peek, w ∈ lw_tbl := (List.forall_mem_cons.mpr ⟨tw_1366, (List.forall_mem_append.mpr ⟨(List.forall_mem_cons.mpr ⟨tw_923, (List.forall_mem_cons.mpr ⟨tw_924, (List.forall_mem_cons.mpr ⟨tw_925, (List.forall_mem_cons.mpr ⟨tw_1266, (List.forall_mem_cons.mpr ⟨tw_1337, (List.forall_mem_cons.mpr ⟨tw_1338, (List.forall_mem_cons.mpr ⟨tw_83, (List.forall_mem_cons.mpr ⟨tw_1339, (List.forall_mem_cons.mpr ⟨tw_1017, (List.forall_mem_cons.mpr ⟨tw_1018, (List.forall_mem_cons.mpr ⟨tw_1019, (fun _ h => absurd h List.not_mem_nil)⟩)⟩)⟩)⟩)⟩)⟩)⟩)⟩)⟩)⟩)⟩), fu_wsX90⟩)⟩)
set_option maxRecDepth 100000 in
theorem tw_1365 : Cond.selects RX9 yX9_peek yX9_peek ∈ lw_tbl := List.mem_append_right _ (List.mem_append_right _ (List.mem_append_right _ (List.mem_append_right _ (List.mem_append_right _ (List.mem_append_right _ (List.mem_of_getElem? (i := 92) rfl))))))
set_option maxRecDepth 100000 in
theorem tw_1364 : Cond.instanceMethod yX9_peek ∈ lw_tbl := List.mem_append_right _ (List.mem_append_right _ (List.mem_append_right _ (List.mem_append_right _ (List.mem_append_right _ (List.mem_append_right _ (List.mem_of_getElem? (i := 91) rfl))))))
set_option maxRecDepth 100000 in
theorem tw_1363 : Cond.methodLink RL 166 yX9_peek ∈ lw_tbl := List.mem_append_right _ (List.mem_append_right _ (List.mem_append_right _ (List.mem_append_right _ (List.mem_append_right _ (List.mem_append_right _ (List.mem_of_getElem? (i := 90) rfl))))))
set_option maxRecDepth 100000 in
theorem tw_895 : Cond.code yX8_shift cX8_shift 6 (some .int) ∈ lw_tbl := List.mem_append_right _ (List.mem_append_right _ (List.mem_append_right _ (List.mem_append_right _ (List.mem_append_left _ (List.mem_of_getElem? (i := 102) rfl)))))
set_option maxRecDepth 100000 in
theorem tw_899 : Cond.code yX5_hasRun cX5_hasRun 4 (some .boolean) ∈ lw_tbl := List.mem_append_right _ (List.mem_append_right _ (List.mem_append_right _ (List.mem_append_right _ (List.mem_append_left _ (List.mem_of_getElem? (i := 106) rfl)))))
set_option maxRecDepth 100000 in
theorem tw_898 : Cond.selects RX5 yX5_hasRun yX5_hasRun ∈ lw_tbl := List.mem_append_right _ (List.mem_append_right _ (List.mem_append_right _ (List.mem_append_right _ (List.mem_append_left _ (List.mem_of_getElem? (i := 105) rfl)))))
set_option maxRecDepth 100000 in
theorem tw_897 : Cond.instanceMethod yX5_hasRun ∈ lw_tbl := List.mem_append_right _ (List.mem_append_right _ (List.mem_append_right _ (List.mem_append_right _ (List.mem_append_left _ (List.mem_of_getElem? (i := 104) rfl)))))
set_option maxRecDepth 100000 in
theorem tw_896 : Cond.methodLink RX8 301 yX5_hasRun ∈ lw_tbl := List.mem_append_right _ (List.mem_append_right _ (List.mem_append_right _ (List.mem_append_right _ (List.mem_append_left _ (List.mem_of_getElem? (i := 103) rfl)))))
set_option maxRecDepth 100000 in
theorem tw_900 : Cond.methodLink RX8 304 arraycopyName ∈ lw_tbl := List.mem_append_right _ (List.mem_append_right _ (List.mem_append_right _ (List.mem_append_right _ (List.mem_append_left _ (List.mem_of_getElem? (i := 107) rfl)))))
set_option maxRecDepth 100000 in
theorem dl_wsX8_shift : ∀ w ∈ wsX8_shift, w ∈ lw_tbl := (List.forall_mem_cons.mpr ⟨tw_895, (List.forall_mem_append.mpr ⟨(List.forall_mem_append.mpr ⟨(List.forall_mem_cons.mpr ⟨tw_298, (List.forall_mem_cons.mpr ⟨tw_282, (List.forall_mem_cons.mpr ⟨tw_280, (List.forall_mem_cons.mpr ⟨tw_900, (List.forall_mem_cons.mpr ⟨tw_346, (List.forall_mem_cons.mpr ⟨tw_345, (List.forall_mem_cons.mpr ⟨tw_84, (List.forall_mem_cons.mpr ⟨tw_826, (List.forall_mem_cons.mpr ⟨tw_827, (List.forall_mem_cons.mpr ⟨tw_828, (List.forall_mem_cons.mpr ⟨tw_82, (List.forall_mem_cons.mpr ⟨tw_829, (List.forall_mem_cons.mpr ⟨tw_830, (List.forall_mem_cons.mpr ⟨tw_831, (List.forall_mem_cons.mpr ⟨tw_832, (List.forall_mem_cons.mpr ⟨tw_833, (List.forall_mem_cons.mpr ⟨tw_281, (List.forall_mem_cons.mpr ⟨tw_834, (List.forall_mem_cons.mpr ⟨tw_896, (List.forall_mem_cons.mpr ⟨tw_897, (List.forall_mem_cons.mpr ⟨tw_898, (List.forall_mem_cons.mpr ⟨tw_899, (List.forall_mem_cons.mpr ⟨tw_283, (List.forall_mem_cons.mpr ⟨tw_843, (fun _ h => absurd h List.not_mem_nil)⟩)⟩)⟩)⟩)⟩)⟩)⟩)⟩)⟩)⟩)⟩)⟩)⟩)⟩)⟩)⟩)⟩)⟩)⟩)⟩)⟩)⟩)⟩)⟩), fu_wsX80⟩), fu_wsX50⟩)⟩)
set_option maxRecDepth 100000 in
theorem tw_894 : Cond.selects RX8 yX8_shift yX8_shift ∈ lw_tbl := List.mem_append_right _ (List.mem_append_right _ (List.mem_append_right _ (List.mem_append_right _ (List.mem_append_left _ (List.mem_of_getElem? (i := 101) rfl)))))
set_option maxRecDepth 100000 in
theorem tw_893 : Cond.instanceMethod yX8_shift ∈ lw_tbl := List.mem_append_right _ (List.mem_append_right _ (List.mem_append_right _ (List.mem_append_right _ (List.mem_append_left _ (List.mem_of_getElem? (i := 100) rfl)))))
set_option maxRecDepth 100000 in
theorem tw_892 : Cond.methodLink RL 167 yX8_shift ∈ lw_tbl := List.mem_append_right _ (List.mem_append_right _ (List.mem_append_right _ (List.mem_append_right _ (List.mem_append_left _ (List.mem_of_getElem? (i := 99) rfl)))))
set_option maxRecDepth 100000 in
theorem tw_1370 : Cond.code yX9_shift cX9_shift 7 (some .int) ∈ lw_tbl := List.mem_append_right _ (List.mem_append_right _ (List.mem_append_right _ (List.mem_append_right _ (List.mem_append_right _ (List.mem_append_right _ (List.mem_of_getElem? (i := 97) rfl))))))
set_option maxRecDepth 100000 in
theorem dl_wsX9_shift : ∀ w ∈ wsX9_shift, w ∈ lw_tbl := (List.forall_mem_cons.mpr ⟨tw_1370, (List.forall_mem_append.mpr ⟨(List.forall_mem_cons.mpr ⟨tw_923, (List.forall_mem_cons.mpr ⟨tw_924, (List.forall_mem_cons.mpr ⟨tw_926, (List.forall_mem_cons.mpr ⟨tw_925, (List.forall_mem_cons.mpr ⟨tw_1337, (List.forall_mem_cons.mpr ⟨tw_1338, (List.forall_mem_cons.mpr ⟨tw_83, (List.forall_mem_cons.mpr ⟨tw_1339, (List.forall_mem_cons.mpr ⟨tw_1017, (List.forall_mem_cons.mpr ⟨tw_1018, (List.forall_mem_cons.mpr ⟨tw_1019, (fun _ h => absurd h List.not_mem_nil)⟩)⟩)⟩)⟩)⟩)⟩)⟩)⟩)⟩)⟩)⟩), fu_wsX90⟩)⟩)
set_option maxRecDepth 100000 in
theorem tw_1369 : Cond.selects RX9 yX9_shift yX9_shift ∈ lw_tbl := List.mem_append_right _ (List.mem_append_right _ (List.mem_append_right _ (List.mem_append_right _ (List.mem_append_right _ (List.mem_append_right _ (List.mem_of_getElem? (i := 96) rfl))))))
set_option maxRecDepth 100000 in
theorem tw_1368 : Cond.instanceMethod yX9_shift ∈ lw_tbl := List.mem_append_right _ (List.mem_append_right _ (List.mem_append_right _ (List.mem_append_right _ (List.mem_append_right _ (List.mem_append_right _ (List.mem_of_getElem? (i := 95) rfl))))))
set_option maxRecDepth 100000 in
theorem tw_1367 : Cond.methodLink RL 171 yX9_shift ∈ lw_tbl := List.mem_append_right _ (List.mem_append_right _ (List.mem_append_right _ (List.mem_append_right _ (List.mem_append_right _ (List.mem_append_right _ (List.mem_of_getElem? (i := 94) rfl))))))
set_option maxRecDepth 100000 in
theorem tw_87 : Cond.classLink RL 7 RX8 ∈ lw_tbl := List.mem_append_right _ (List.mem_append_left _ (List.mem_of_getElem? (i := 14) rfl))
set_option maxRecDepth 100000 in
theorem tw_88 : Cond.instantiable RX8 8 ∈ lw_tbl := List.mem_append_right _ (List.mem_append_left _ (List.mem_of_getElem? (i := 15) rfl))
set_option maxRecDepth 100000 in
theorem tw_901 : Cond.classLink RL 10 RX9 ∈ lw_tbl := List.mem_append_right _ (List.mem_append_right _ (List.mem_append_right _ (List.mem_append_right _ (List.mem_append_left _ (List.mem_of_getElem? (i := 108) rfl)))))
set_option maxRecDepth 100000 in
theorem tw_902 : Cond.instantiable RX9 35 ∈ lw_tbl := List.mem_append_right _ (List.mem_append_right _ (List.mem_append_right _ (List.mem_append_right _ (List.mem_append_left _ (List.mem_of_getElem? (i := 109) rfl)))))
set_option maxRecDepth 100000 in
theorem tw_1371 : Cond.constantLong RL 155 (4294967295) ∈ lw_tbl := List.mem_append_right _ (List.mem_append_right _ (List.mem_append_right _ (List.mem_append_right _ (List.mem_append_right _ (List.mem_append_right _ (List.mem_of_getElem? (i := 98) rfl))))))
set_option maxRecDepth 100000 in
theorem gl_X8_init : GoodIn lw_tbl wsX8_init := goodIn_sub dl_wsX8_init (by decide +kernel)
set_option maxRecDepth 100000 in
theorem gl_X9_init : GoodIn lw_tbl wsX9_init := goodIn_sub dl_wsX9_init (by decide +kernel)
set_option maxRecDepth 100000 in
theorem gl_X8_points : GoodIn lw_tbl (wsV RL 13 RX8 yX8_points wsX8_points) := goodIn_sub (List.forall_mem_cons.mpr ⟨tw_316, (List.forall_mem_cons.mpr ⟨tw_317, (List.forall_mem_cons.mpr ⟨tw_318, (List.forall_mem_cons.mpr ⟨tw_74, dl_wsX8_points⟩)⟩)⟩)⟩) (by decide +kernel)
set_option maxRecDepth 100000 in
theorem gl_X9_points : GoodIn lw_tbl (wsV RL 17 RX9 yX9_points wsX9_points) := goodIn_sub (List.forall_mem_cons.mpr ⟨tw_1013, (List.forall_mem_cons.mpr ⟨tw_1014, (List.forall_mem_cons.mpr ⟨tw_1015, (List.forall_mem_cons.mpr ⟨tw_83, dl_wsX9_points⟩)⟩)⟩)⟩) (by decide +kernel)
set_option maxRecDepth 100000 in
theorem gl_X8_set : GoodIn lw_tbl (wsV RL 18 RX8 yX8_set wsX8_set) := goodIn_sub (List.forall_mem_cons.mpr ⟨tw_321, (List.forall_mem_cons.mpr ⟨tw_322, (List.forall_mem_cons.mpr ⟨tw_323, (List.forall_mem_cons.mpr ⟨tw_74, dl_wsX8_set⟩)⟩)⟩)⟩) (by decide +kernel)
set_option maxRecDepth 100000 in
theorem gl_X9_set : GoodIn lw_tbl (wsV RL 22 RX9 yX9_set wsX9_set) := goodIn_sub (List.forall_mem_cons.mpr ⟨tw_1024, (List.forall_mem_cons.mpr ⟨tw_1025, (List.forall_mem_cons.mpr ⟨tw_1026, (List.forall_mem_cons.mpr ⟨tw_83, dl_wsX9_set⟩)⟩)⟩)⟩) (by decide +kernel)
set_option maxRecDepth 100000 in
theorem gl_X8_shorten : GoodIn lw_tbl (wsV RL 23 RX8 yX8_shorten wsX8_shorten) := goodIn_sub (List.forall_mem_cons.mpr ⟨tw_336, (List.forall_mem_cons.mpr ⟨tw_337, (List.forall_mem_cons.mpr ⟨tw_338, (List.forall_mem_cons.mpr ⟨tw_74, dl_wsX8_shorten⟩)⟩)⟩)⟩) (by decide +kernel)
set_option maxRecDepth 100000 in
theorem gl_X9_shorten : GoodIn lw_tbl (wsV RL 27 RX9 yX9_shorten wsX9_shorten) := goodIn_sub (List.forall_mem_cons.mpr ⟨tw_1040, (List.forall_mem_cons.mpr ⟨tw_1041, (List.forall_mem_cons.mpr ⟨tw_1042, (List.forall_mem_cons.mpr ⟨tw_83, dl_wsX9_shorten⟩)⟩)⟩)⟩) (by decide +kernel)
set_option maxRecDepth 100000 in
theorem gl_X8_function : GoodIn lw_tbl (wsV RL 28 RX8 yX8_function wsX8_function) := goodIn_sub (List.forall_mem_cons.mpr ⟨tw_356, (List.forall_mem_cons.mpr ⟨tw_357, (List.forall_mem_cons.mpr ⟨tw_358, (List.forall_mem_cons.mpr ⟨tw_74, dl_wsX8_function⟩)⟩)⟩)⟩) (by decide +kernel)
set_option maxRecDepth 100000 in
theorem gl_X9_function : GoodIn lw_tbl (wsV RL 32 RX9 yX9_function wsX9_function) := goodIn_sub (List.forall_mem_cons.mpr ⟨tw_1049, (List.forall_mem_cons.mpr ⟨tw_1050, (List.forall_mem_cons.mpr ⟨tw_1051, (List.forall_mem_cons.mpr ⟨tw_83, dl_wsX9_function⟩)⟩)⟩)⟩) (by decide +kernel)
set_option maxRecDepth 100000 in
theorem gl_X8_least : GoodIn lw_tbl (wsV RL 33 RX8 yX8_least wsX8_least) := goodIn_sub (List.forall_mem_cons.mpr ⟨tw_364, (List.forall_mem_cons.mpr ⟨tw_365, (List.forall_mem_cons.mpr ⟨tw_366, (List.forall_mem_cons.mpr ⟨tw_74, dl_wsX8_least⟩)⟩)⟩)⟩) (by decide +kernel)
set_option maxRecDepth 100000 in
theorem gl_X9_least : GoodIn lw_tbl (wsV RL 36 RX9 yX9_least wsX9_least) := goodIn_sub (List.forall_mem_cons.mpr ⟨tw_1053, (List.forall_mem_cons.mpr ⟨tw_1054, (List.forall_mem_cons.mpr ⟨tw_1055, (List.forall_mem_cons.mpr ⟨tw_83, dl_wsX9_least⟩)⟩)⟩)⟩) (by decide +kernel)
set_option maxRecDepth 100000 in
theorem gl_X8_map : GoodIn lw_tbl (wsV RL 37 RX8 yX8_map wsX8_map) := goodIn_sub (List.forall_mem_cons.mpr ⟨tw_463, (List.forall_mem_cons.mpr ⟨tw_464, (List.forall_mem_cons.mpr ⟨tw_465, (List.forall_mem_cons.mpr ⟨tw_74, dl_wsX8_map⟩)⟩)⟩)⟩) (by decide +kernel)
set_option maxRecDepth 100000 in
theorem gl_X9_map : GoodIn lw_tbl (wsV RL 40 RX9 yX9_map wsX9_map) := goodIn_sub (List.forall_mem_cons.mpr ⟨tw_1086, (List.forall_mem_cons.mpr ⟨tw_1087, (List.forall_mem_cons.mpr ⟨tw_1088, (List.forall_mem_cons.mpr ⟨tw_83, dl_wsX9_map⟩)⟩)⟩)⟩) (by decide +kernel)
set_option maxRecDepth 100000 in
theorem gl_X8_feed : GoodIn lw_tbl (wsV RL 41 RX8 yX8_feed wsX8_feed) := goodIn_sub (List.forall_mem_cons.mpr ⟨tw_467, (List.forall_mem_cons.mpr ⟨tw_468, (List.forall_mem_cons.mpr ⟨tw_469, (List.forall_mem_cons.mpr ⟨tw_74, dl_wsX8_feed⟩)⟩)⟩)⟩) (by decide +kernel)
set_option maxRecDepth 100000 in
theorem gl_X9_feed : GoodIn lw_tbl (wsV RL 44 RX9 yX9_feed wsX9_feed) := goodIn_sub (List.forall_mem_cons.mpr ⟨tw_1294, (List.forall_mem_cons.mpr ⟨tw_1295, (List.forall_mem_cons.mpr ⟨tw_1296, (List.forall_mem_cons.mpr ⟨tw_83, dl_wsX9_feed⟩)⟩)⟩)⟩) (by decide +kernel)
set_option maxRecDepth 100000 in
theorem gl_X8_read : GoodIn lw_tbl (wsV RL 45 RX8 yX8_read wsX8_read) := goodIn_sub (List.forall_mem_cons.mpr ⟨tw_475, (List.forall_mem_cons.mpr ⟨tw_476, (List.forall_mem_cons.mpr ⟨tw_477, (List.forall_mem_cons.mpr ⟨tw_74, dl_wsX8_read⟩)⟩)⟩)⟩) (by decide +kernel)
set_option maxRecDepth 100000 in
theorem gl_X9_read : GoodIn lw_tbl (wsV RL 48 RX9 yX9_read wsX9_read) := goodIn_sub (List.forall_mem_cons.mpr ⟨tw_1298, (List.forall_mem_cons.mpr ⟨tw_1299, (List.forall_mem_cons.mpr ⟨tw_1300, (List.forall_mem_cons.mpr ⟨tw_83, dl_wsX9_read⟩)⟩)⟩)⟩) (by decide +kernel)
set_option maxRecDepth 100000 in
theorem gl_X8_of : GoodIn lw_tbl (wsV RL 49 RX8 yX8_of wsX8_of) := goodIn_sub (List.forall_mem_cons.mpr ⟨tw_542, (List.forall_mem_cons.mpr ⟨tw_543, (List.forall_mem_cons.mpr ⟨tw_544, (List.forall_mem_cons.mpr ⟨tw_74, dl_wsX8_of⟩)⟩)⟩)⟩) (by decide +kernel)
set_option maxRecDepth 100000 in
theorem gl_X9_of : GoodIn lw_tbl (wsV RL 52 RX9 yX9_of wsX9_of) := goodIn_sub (List.forall_mem_cons.mpr ⟨tw_1090, (List.forall_mem_cons.mpr ⟨tw_1091, (List.forall_mem_cons.mpr ⟨tw_1092, (List.forall_mem_cons.mpr ⟨tw_83, dl_wsX9_of⟩)⟩)⟩)⟩) (by decide +kernel)
set_option maxRecDepth 100000 in
theorem gl_X8_told : GoodIn lw_tbl (wsV RL 53 RX8 yX8_told wsX8_told) := goodIn_sub (List.forall_mem_cons.mpr ⟨tw_572, (List.forall_mem_cons.mpr ⟨tw_573, (List.forall_mem_cons.mpr ⟨tw_574, (List.forall_mem_cons.mpr ⟨tw_74, dl_wsX8_told⟩)⟩)⟩)⟩) (by decide +kernel)
set_option maxRecDepth 100000 in
theorem gl_X9_told : GoodIn lw_tbl (wsV RL 56 RX9 yX9_told wsX9_told) := goodIn_sub (List.forall_mem_cons.mpr ⟨tw_1118, (List.forall_mem_cons.mpr ⟨tw_1119, (List.forall_mem_cons.mpr ⟨tw_1120, (List.forall_mem_cons.mpr ⟨tw_83, dl_wsX9_told⟩)⟩)⟩)⟩) (by decide +kernel)
set_option maxRecDepth 100000 in
theorem gl_X8_functionOf : GoodIn lw_tbl (wsV RL 57 RX8 yX8_functionOf wsX8_functionOf) := goodIn_sub (List.forall_mem_cons.mpr ⟨tw_623, (List.forall_mem_cons.mpr ⟨tw_624, (List.forall_mem_cons.mpr ⟨tw_625, (List.forall_mem_cons.mpr ⟨tw_74, dl_wsX8_functionOf⟩)⟩)⟩)⟩) (by decide +kernel)
set_option maxRecDepth 100000 in
theorem gl_X9_functionOf : GoodIn lw_tbl (wsV RL 60 RX9 yX9_functionOf wsX9_functionOf) := goodIn_sub (List.forall_mem_cons.mpr ⟨tw_1162, (List.forall_mem_cons.mpr ⟨tw_1163, (List.forall_mem_cons.mpr ⟨tw_1164, (List.forall_mem_cons.mpr ⟨tw_83, dl_wsX9_functionOf⟩)⟩)⟩)⟩) (by decide +kernel)
set_option maxRecDepth 100000 in
theorem gl_X8_mapOf : GoodIn lw_tbl (wsV RL 61 RX8 yX8_mapOf wsX8_mapOf) := goodIn_sub (List.forall_mem_cons.mpr ⟨tw_646, (List.forall_mem_cons.mpr ⟨tw_647, (List.forall_mem_cons.mpr ⟨tw_648, (List.forall_mem_cons.mpr ⟨tw_74, dl_wsX8_mapOf⟩)⟩)⟩)⟩) (by decide +kernel)
set_option maxRecDepth 100000 in
theorem gl_X9_mapOf : GoodIn lw_tbl (wsV RL 64 RX9 yX9_mapOf wsX9_mapOf) := goodIn_sub (List.forall_mem_cons.mpr ⟨tw_1182, (List.forall_mem_cons.mpr ⟨tw_1183, (List.forall_mem_cons.mpr ⟨tw_1184, (List.forall_mem_cons.mpr ⟨tw_83, dl_wsX9_mapOf⟩)⟩)⟩)⟩) (by decide +kernel)
set_option maxRecDepth 100000 in
theorem gl_X8_middle : GoodIn lw_tbl (wsV RL 65 RX8 yX8_middle wsX8_middle) := goodIn_sub (List.forall_mem_cons.mpr ⟨tw_654, (List.forall_mem_cons.mpr ⟨tw_655, (List.forall_mem_cons.mpr ⟨tw_656, (List.forall_mem_cons.mpr ⟨tw_74, dl_wsX8_middle⟩)⟩)⟩)⟩) (by decide +kernel)
set_option maxRecDepth 100000 in
theorem gl_X9_middle : GoodIn lw_tbl (wsV RL 68 RX9 yX9_middle wsX9_middle) := goodIn_sub (List.forall_mem_cons.mpr ⟨tw_1186, (List.forall_mem_cons.mpr ⟨tw_1187, (List.forall_mem_cons.mpr ⟨tw_1188, (List.forall_mem_cons.mpr ⟨tw_83, dl_wsX9_middle⟩)⟩)⟩)⟩) (by decide +kernel)
set_option maxRecDepth 100000 in
theorem gl_X8_corners : GoodIn lw_tbl (wsV RL 69 RX8 yX8_corners wsX8_corners) := goodIn_sub (List.forall_mem_cons.mpr ⟨tw_658, (List.forall_mem_cons.mpr ⟨tw_659, (List.forall_mem_cons.mpr ⟨tw_660, (List.forall_mem_cons.mpr ⟨tw_74, dl_wsX8_corners⟩)⟩)⟩)⟩) (by decide +kernel)
set_option maxRecDepth 100000 in
theorem gl_X9_corners : GoodIn lw_tbl (wsV RL 72 RX9 yX9_corners wsX9_corners) := goodIn_sub (List.forall_mem_cons.mpr ⟨tw_1190, (List.forall_mem_cons.mpr ⟨tw_1191, (List.forall_mem_cons.mpr ⟨tw_1192, (List.forall_mem_cons.mpr ⟨tw_83, dl_wsX9_corners⟩)⟩)⟩)⟩) (by decide +kernel)
set_option maxRecDepth 100000 in
theorem gl_X8_at : GoodIn lw_tbl (wsV RL 73 RX8 yX8_at wsX8_at) := goodIn_sub (List.forall_mem_cons.mpr ⟨tw_662, (List.forall_mem_cons.mpr ⟨tw_663, (List.forall_mem_cons.mpr ⟨tw_664, (List.forall_mem_cons.mpr ⟨tw_74, dl_wsX8_at⟩)⟩)⟩)⟩) (by decide +kernel)
set_option maxRecDepth 100000 in
theorem gl_X9_at : GoodIn lw_tbl (wsV RL 76 RX9 yX9_at wsX9_at) := goodIn_sub (List.forall_mem_cons.mpr ⟨tw_1198, (List.forall_mem_cons.mpr ⟨tw_1199, (List.forall_mem_cons.mpr ⟨tw_1200, (List.forall_mem_cons.mpr ⟨tw_83, dl_wsX9_at⟩)⟩)⟩)⟩) (by decide +kernel)
set_option maxRecDepth 100000 in
theorem gl_X8_corner : GoodIn lw_tbl (wsV RL 77 RX8 yX8_corner wsX8_corner) := goodIn_sub (List.forall_mem_cons.mpr ⟨tw_667, (List.forall_mem_cons.mpr ⟨tw_668, (List.forall_mem_cons.mpr ⟨tw_669, (List.forall_mem_cons.mpr ⟨tw_74, dl_wsX8_corner⟩)⟩)⟩)⟩) (by decide +kernel)
set_option maxRecDepth 100000 in
theorem gl_X9_corner : GoodIn lw_tbl (wsV RL 80 RX9 yX9_corner wsX9_corner) := goodIn_sub (List.forall_mem_cons.mpr ⟨tw_1206, (List.forall_mem_cons.mpr ⟨tw_1207, (List.forall_mem_cons.mpr ⟨tw_1208, (List.forall_mem_cons.mpr ⟨tw_83, dl_wsX9_corner⟩)⟩)⟩)⟩) (by decide +kernel)
set_option maxRecDepth 100000 in
theorem gl_X8_tight : GoodIn lw_tbl (wsV RL 81 RX8 yX8_tight wsX8_tight) := goodIn_sub (List.forall_mem_cons.mpr ⟨tw_699, (List.forall_mem_cons.mpr ⟨tw_700, (List.forall_mem_cons.mpr ⟨tw_701, (List.forall_mem_cons.mpr ⟨tw_74, dl_wsX8_tight⟩)⟩)⟩)⟩) (by decide +kernel)
set_option maxRecDepth 100000 in
theorem gl_X9_tight : GoodIn lw_tbl (wsV RL 84 RX9 yX9_tight wsX9_tight) := goodIn_sub (List.forall_mem_cons.mpr ⟨tw_1226, (List.forall_mem_cons.mpr ⟨tw_1227, (List.forall_mem_cons.mpr ⟨tw_1228, (List.forall_mem_cons.mpr ⟨tw_83, dl_wsX9_tight⟩)⟩)⟩)⟩) (by decide +kernel)
set_option maxRecDepth 100000 in
theorem gl_X8_two : GoodIn lw_tbl (wsV RL 85 RX8 yX8_two wsX8_two) := goodIn_sub (List.forall_mem_cons.mpr ⟨tw_706, (List.forall_mem_cons.mpr ⟨tw_707, (List.forall_mem_cons.mpr ⟨tw_708, (List.forall_mem_cons.mpr ⟨tw_74, dl_wsX8_two⟩)⟩)⟩)⟩) (by decide +kernel)
set_option maxRecDepth 100000 in
theorem gl_X9_two : GoodIn lw_tbl (wsV RL 88 RX9 yX9_two wsX9_two) := goodIn_sub (List.forall_mem_cons.mpr ⟨tw_1230, (List.forall_mem_cons.mpr ⟨tw_1231, (List.forall_mem_cons.mpr ⟨tw_1232, (List.forall_mem_cons.mpr ⟨tw_83, dl_wsX9_two⟩)⟩)⟩)⟩) (by decide +kernel)
set_option maxRecDepth 100000 in
theorem gl_X8_eye : GoodIn lw_tbl (wsV RL 89 RX8 yX8_eye wsX8_eye) := goodIn_sub (List.forall_mem_cons.mpr ⟨tw_719, (List.forall_mem_cons.mpr ⟨tw_720, (List.forall_mem_cons.mpr ⟨tw_721, (List.forall_mem_cons.mpr ⟨tw_74, dl_wsX8_eye⟩)⟩)⟩)⟩) (by decide +kernel)
set_option maxRecDepth 100000 in
theorem gl_X9_eye : GoodIn lw_tbl (wsV RL 92 RX9 yX9_eye wsX9_eye) := goodIn_sub (List.forall_mem_cons.mpr ⟨tw_1234, (List.forall_mem_cons.mpr ⟨tw_1235, (List.forall_mem_cons.mpr ⟨tw_1236, (List.forall_mem_cons.mpr ⟨tw_83, dl_wsX9_eye⟩)⟩)⟩)⟩) (by decide +kernel)
set_option maxRecDepth 100000 in
theorem gl_X8_weight : GoodIn lw_tbl (wsV RL 93 RX8 yX8_weight wsX8_weight) := goodIn_sub (List.forall_mem_cons.mpr ⟨tw_727, (List.forall_mem_cons.mpr ⟨tw_728, (List.forall_mem_cons.mpr ⟨tw_729, (List.forall_mem_cons.mpr ⟨tw_74, dl_wsX8_weight⟩)⟩)⟩)⟩) (by decide +kernel)
set_option maxRecDepth 100000 in
theorem gl_X9_weight : GoodIn lw_tbl (wsV RL 96 RX9 yX9_weight wsX9_weight) := goodIn_sub (List.forall_mem_cons.mpr ⟨tw_1238, (List.forall_mem_cons.mpr ⟨tw_1239, (List.forall_mem_cons.mpr ⟨tw_1240, (List.forall_mem_cons.mpr ⟨tw_83, dl_wsX9_weight⟩)⟩)⟩)⟩) (by decide +kernel)
set_option maxRecDepth 100000 in
theorem gl_X8_split : GoodIn lw_tbl (wsV RL 97 RX8 yX8_split wsX8_split) := goodIn_sub (List.forall_mem_cons.mpr ⟨tw_736, (List.forall_mem_cons.mpr ⟨tw_737, (List.forall_mem_cons.mpr ⟨tw_738, (List.forall_mem_cons.mpr ⟨tw_74, dl_wsX8_split⟩)⟩)⟩)⟩) (by decide +kernel)
set_option maxRecDepth 100000 in
theorem gl_X9_split : GoodIn lw_tbl (wsV RL 100 RX9 yX9_split wsX9_split) := goodIn_sub (List.forall_mem_cons.mpr ⟨tw_1242, (List.forall_mem_cons.mpr ⟨tw_1243, (List.forall_mem_cons.mpr ⟨tw_1244, (List.forall_mem_cons.mpr ⟨tw_83, dl_wsX9_split⟩)⟩)⟩)⟩) (by decide +kernel)
set_option maxRecDepth 100000 in
theorem gl_X8_see : GoodIn lw_tbl (wsV RL 101 RX8 yX8_see wsX8_see) := goodIn_sub (List.forall_mem_cons.mpr ⟨tw_740, (List.forall_mem_cons.mpr ⟨tw_741, (List.forall_mem_cons.mpr ⟨tw_742, (List.forall_mem_cons.mpr ⟨tw_74, dl_wsX8_see⟩)⟩)⟩)⟩) (by decide +kernel)
set_option maxRecDepth 100000 in
theorem gl_X9_see : GoodIn lw_tbl (wsV RL 104 RX9 yX9_see wsX9_see) := goodIn_sub (List.forall_mem_cons.mpr ⟨tw_1250, (List.forall_mem_cons.mpr ⟨tw_1251, (List.forall_mem_cons.mpr ⟨tw_1252, (List.forall_mem_cons.mpr ⟨tw_83, dl_wsX9_see⟩)⟩)⟩)⟩) (by decide +kernel)
set_option maxRecDepth 100000 in
theorem gl_X8_fits : GoodIn lw_tbl (wsV RL 105 RX8 yX8_fits wsX8_fits) := goodIn_sub (List.forall_mem_cons.mpr ⟨tw_752, (List.forall_mem_cons.mpr ⟨tw_753, (List.forall_mem_cons.mpr ⟨tw_754, (List.forall_mem_cons.mpr ⟨tw_74, dl_wsX8_fits⟩)⟩)⟩)⟩) (by decide +kernel)
set_option maxRecDepth 100000 in
theorem gl_X9_fits : GoodIn lw_tbl (wsV RL 108 RX9 yX9_fits wsX9_fits) := goodIn_sub (List.forall_mem_cons.mpr ⟨tw_1254, (List.forall_mem_cons.mpr ⟨tw_1255, (List.forall_mem_cons.mpr ⟨tw_1256, (List.forall_mem_cons.mpr ⟨tw_83, dl_wsX9_fits⟩)⟩)⟩)⟩) (by decide +kernel)
set_option maxRecDepth 100000 in
theorem gl_X8_odds : GoodIn lw_tbl (wsV RL 109 RX8 yX8_odds wsX8_odds) := goodIn_sub (List.forall_mem_cons.mpr ⟨tw_767, (List.forall_mem_cons.mpr ⟨tw_768, (List.forall_mem_cons.mpr ⟨tw_769, (List.forall_mem_cons.mpr ⟨tw_74, dl_wsX8_odds⟩)⟩)⟩)⟩) (by decide +kernel)
set_option maxRecDepth 100000 in
theorem gl_X9_odds : GoodIn lw_tbl (wsV RL 113 RX9 yX9_odds wsX9_odds) := goodIn_sub (List.forall_mem_cons.mpr ⟨tw_1262, (List.forall_mem_cons.mpr ⟨tw_1263, (List.forall_mem_cons.mpr ⟨tw_1264, (List.forall_mem_cons.mpr ⟨tw_83, dl_wsX9_odds⟩)⟩)⟩)⟩) (by decide +kernel)
set_option maxRecDepth 100000 in
theorem gl_X8_mean : GoodIn lw_tbl (wsV RL 114 RX8 yX8_mean wsX8_mean) := goodIn_sub (List.forall_mem_cons.mpr ⟨tw_782, (List.forall_mem_cons.mpr ⟨tw_783, (List.forall_mem_cons.mpr ⟨tw_784, (List.forall_mem_cons.mpr ⟨tw_74, dl_wsX8_mean⟩)⟩)⟩)⟩) (by decide +kernel)
set_option maxRecDepth 100000 in
theorem gl_X9_mean : GoodIn lw_tbl (wsV RL 118 RX9 yX9_mean wsX9_mean) := goodIn_sub (List.forall_mem_cons.mpr ⟨tw_1270, (List.forall_mem_cons.mpr ⟨tw_1271, (List.forall_mem_cons.mpr ⟨tw_1272, (List.forall_mem_cons.mpr ⟨tw_83, dl_wsX9_mean⟩)⟩)⟩)⟩) (by decide +kernel)
set_option maxRecDepth 100000 in
theorem gl_X8_event : GoodIn lw_tbl (wsV RL 119 RX8 yX8_event wsX8_event) := goodIn_sub (List.forall_mem_cons.mpr ⟨tw_790, (List.forall_mem_cons.mpr ⟨tw_791, (List.forall_mem_cons.mpr ⟨tw_792, (List.forall_mem_cons.mpr ⟨tw_74, dl_wsX8_event⟩)⟩)⟩)⟩) (by decide +kernel)
set_option maxRecDepth 100000 in
theorem gl_X9_event : GoodIn lw_tbl (wsV RL 122 RX9 yX9_event wsX9_event) := goodIn_sub (List.forall_mem_cons.mpr ⟨tw_1274, (List.forall_mem_cons.mpr ⟨tw_1275, (List.forall_mem_cons.mpr ⟨tw_1276, (List.forall_mem_cons.mpr ⟨tw_83, dl_wsX9_event⟩)⟩)⟩)⟩) (by decide +kernel)
set_option maxRecDepth 100000 in
theorem gl_X8_after : GoodIn lw_tbl (wsV RL 123 RX8 yX8_after wsX8_after) := goodIn_sub (List.forall_mem_cons.mpr ⟨tw_794, (List.forall_mem_cons.mpr ⟨tw_795, (List.forall_mem_cons.mpr ⟨tw_796, (List.forall_mem_cons.mpr ⟨tw_74, dl_wsX8_after⟩)⟩)⟩)⟩) (by decide +kernel)
set_option maxRecDepth 100000 in
theorem gl_X9_after : GoodIn lw_tbl (wsV RL 126 RX9 yX9_after wsX9_after) := goodIn_sub (List.forall_mem_cons.mpr ⟨tw_1278, (List.forall_mem_cons.mpr ⟨tw_1279, (List.forall_mem_cons.mpr ⟨tw_1280, (List.forall_mem_cons.mpr ⟨tw_83, dl_wsX9_after⟩)⟩)⟩)⟩) (by decide +kernel)
set_option maxRecDepth 100000 in
theorem gl_X8_book : GoodIn lw_tbl (wsV RL 127 RX8 yX8_book wsX8_book) := goodIn_sub (List.forall_mem_cons.mpr ⟨tw_810, (List.forall_mem_cons.mpr ⟨tw_811, (List.forall_mem_cons.mpr ⟨tw_812, (List.forall_mem_cons.mpr ⟨tw_74, dl_wsX8_book⟩)⟩)⟩)⟩) (by decide +kernel)
set_option maxRecDepth 100000 in
theorem gl_X9_book : GoodIn lw_tbl (wsV RL 130 RX9 yX9_book wsX9_book) := goodIn_sub (List.forall_mem_cons.mpr ⟨tw_1286, (List.forall_mem_cons.mpr ⟨tw_1287, (List.forall_mem_cons.mpr ⟨tw_1288, (List.forall_mem_cons.mpr ⟨tw_83, dl_wsX9_book⟩)⟩)⟩)⟩) (by decide +kernel)
set_option maxRecDepth 100000 in
theorem gl_X8_looked : GoodIn lw_tbl (wsV RL 131 RX8 yX8_looked wsX8_looked) := goodIn_sub (List.forall_mem_cons.mpr ⟨tw_814, (List.forall_mem_cons.mpr ⟨tw_815, (List.forall_mem_cons.mpr ⟨tw_816, (List.forall_mem_cons.mpr ⟨tw_74, dl_wsX8_looked⟩)⟩)⟩)⟩) (by decide +kernel)
set_option maxRecDepth 100000 in
theorem gl_X9_looked : GoodIn lw_tbl (wsV RL 134 RX9 yX9_looked wsX9_looked) := goodIn_sub (List.forall_mem_cons.mpr ⟨tw_1290, (List.forall_mem_cons.mpr ⟨tw_1291, (List.forall_mem_cons.mpr ⟨tw_1292, (List.forall_mem_cons.mpr ⟨tw_83, dl_wsX9_looked⟩)⟩)⟩)⟩) (by decide +kernel)
set_option maxRecDepth 100000 in
theorem gl_X8_judge : GoodIn lw_tbl (wsV RL 135 RX8 yX8_judge wsX8_judge) := goodIn_sub (List.forall_mem_cons.mpr ⟨tw_822, (List.forall_mem_cons.mpr ⟨tw_823, (List.forall_mem_cons.mpr ⟨tw_824, (List.forall_mem_cons.mpr ⟨tw_74, dl_wsX8_judge⟩)⟩)⟩)⟩) (by decide +kernel)
set_option maxRecDepth 100000 in
theorem gl_X9_judge : GoodIn lw_tbl (wsV RL 138 RX9 yX9_judge wsX9_judge) := goodIn_sub (List.forall_mem_cons.mpr ⟨tw_1333, (List.forall_mem_cons.mpr ⟨tw_1334, (List.forall_mem_cons.mpr ⟨tw_1335, (List.forall_mem_cons.mpr ⟨tw_83, dl_wsX9_judge⟩)⟩)⟩)⟩) (by decide +kernel)
set_option maxRecDepth 100000 in
theorem gl_X8_image : GoodIn lw_tbl (wsV RL 139 RX8 yX8_image wsX8_image) := goodIn_sub (List.forall_mem_cons.mpr ⟨tw_844, (List.forall_mem_cons.mpr ⟨tw_845, (List.forall_mem_cons.mpr ⟨tw_846, (List.forall_mem_cons.mpr ⟨tw_74, dl_wsX8_image⟩)⟩)⟩)⟩) (by decide +kernel)
set_option maxRecDepth 100000 in
theorem gl_X9_image : GoodIn lw_tbl (wsV RL 142 RX9 yX9_image wsX9_image) := goodIn_sub (List.forall_mem_cons.mpr ⟨tw_1340, (List.forall_mem_cons.mpr ⟨tw_1341, (List.forall_mem_cons.mpr ⟨tw_1342, (List.forall_mem_cons.mpr ⟨tw_83, dl_wsX9_image⟩)⟩)⟩)⟩) (by decide +kernel)
set_option maxRecDepth 100000 in
theorem gl_X8_undo : GoodIn lw_tbl (wsV RL 143 RX8 yX8_undo wsX8_undo) := goodIn_sub (List.forall_mem_cons.mpr ⟨tw_860, (List.forall_mem_cons.mpr ⟨tw_861, (List.forall_mem_cons.mpr ⟨tw_862, (List.forall_mem_cons.mpr ⟨tw_74, dl_wsX8_undo⟩)⟩)⟩)⟩) (by decide +kernel)
set_option maxRecDepth 100000 in
theorem gl_X9_undo : GoodIn lw_tbl (wsV RL 146 RX9 yX9_undo wsX9_undo) := goodIn_sub (List.forall_mem_cons.mpr ⟨tw_1344, (List.forall_mem_cons.mpr ⟨tw_1345, (List.forall_mem_cons.mpr ⟨tw_1346, (List.forall_mem_cons.mpr ⟨tw_83, dl_wsX9_undo⟩)⟩)⟩)⟩) (by decide +kernel)
set_option maxRecDepth 100000 in
theorem gl_X8_count : GoodIn lw_tbl (wsV RL 147 RX8 yX8_count wsX8_count) := goodIn_sub (List.forall_mem_cons.mpr ⟨tw_864, (List.forall_mem_cons.mpr ⟨tw_865, (List.forall_mem_cons.mpr ⟨tw_866, (List.forall_mem_cons.mpr ⟨tw_74, dl_wsX8_count⟩)⟩)⟩)⟩) (by decide +kernel)
set_option maxRecDepth 100000 in
theorem gl_X9_count : GoodIn lw_tbl (wsV RL 150 RX9 yX9_count wsX9_count) := goodIn_sub (List.forall_mem_cons.mpr ⟨tw_1348, (List.forall_mem_cons.mpr ⟨tw_1349, (List.forall_mem_cons.mpr ⟨tw_1350, (List.forall_mem_cons.mpr ⟨tw_83, dl_wsX9_count⟩)⟩)⟩)⟩) (by decide +kernel)
set_option maxRecDepth 100000 in
theorem gl_X8_tape : GoodIn lw_tbl (wsV RL 151 RX8 yX8_tape wsX8_tape) := goodIn_sub (List.forall_mem_cons.mpr ⟨tw_868, (List.forall_mem_cons.mpr ⟨tw_869, (List.forall_mem_cons.mpr ⟨tw_870, (List.forall_mem_cons.mpr ⟨tw_74, dl_wsX8_tape⟩)⟩)⟩)⟩) (by decide +kernel)
set_option maxRecDepth 100000 in
theorem gl_X9_tape : GoodIn lw_tbl (wsV RL 154 RX9 yX9_tape wsX9_tape) := goodIn_sub (List.forall_mem_cons.mpr ⟨tw_1352, (List.forall_mem_cons.mpr ⟨tw_1353, (List.forall_mem_cons.mpr ⟨tw_1354, (List.forall_mem_cons.mpr ⟨tw_83, dl_wsX9_tape⟩)⟩)⟩)⟩) (by decide +kernel)
set_option maxRecDepth 100000 in
theorem gl_X8_item : GoodIn lw_tbl (wsV RL 157 RX8 yX8_item wsX8_item) := goodIn_sub (List.forall_mem_cons.mpr ⟨tw_876, (List.forall_mem_cons.mpr ⟨tw_877, (List.forall_mem_cons.mpr ⟨tw_878, (List.forall_mem_cons.mpr ⟨tw_74, dl_wsX8_item⟩)⟩)⟩)⟩) (by decide +kernel)
set_option maxRecDepth 100000 in
theorem gl_X9_item : GoodIn lw_tbl (wsV RL 161 RX9 yX9_item wsX9_item) := goodIn_sub (List.forall_mem_cons.mpr ⟨tw_1356, (List.forall_mem_cons.mpr ⟨tw_1357, (List.forall_mem_cons.mpr ⟨tw_1358, (List.forall_mem_cons.mpr ⟨tw_83, dl_wsX9_item⟩)⟩)⟩)⟩) (by decide +kernel)
set_option maxRecDepth 100000 in
theorem gl_X8_peek : GoodIn lw_tbl (wsV RL 162 RX8 yX8_peek wsX8_peek) := goodIn_sub (List.forall_mem_cons.mpr ⟨tw_888, (List.forall_mem_cons.mpr ⟨tw_889, (List.forall_mem_cons.mpr ⟨tw_890, (List.forall_mem_cons.mpr ⟨tw_74, dl_wsX8_peek⟩)⟩)⟩)⟩) (by decide +kernel)
set_option maxRecDepth 100000 in
theorem gl_X9_peek : GoodIn lw_tbl (wsV RL 166 RX9 yX9_peek wsX9_peek) := goodIn_sub (List.forall_mem_cons.mpr ⟨tw_1363, (List.forall_mem_cons.mpr ⟨tw_1364, (List.forall_mem_cons.mpr ⟨tw_1365, (List.forall_mem_cons.mpr ⟨tw_83, dl_wsX9_peek⟩)⟩)⟩)⟩) (by decide +kernel)
set_option maxRecDepth 100000 in
theorem gl_X8_shift : GoodIn lw_tbl (wsV RL 167 RX8 yX8_shift wsX8_shift) := goodIn_sub (List.forall_mem_cons.mpr ⟨tw_892, (List.forall_mem_cons.mpr ⟨tw_893, (List.forall_mem_cons.mpr ⟨tw_894, (List.forall_mem_cons.mpr ⟨tw_74, dl_wsX8_shift⟩)⟩)⟩)⟩) (by decide +kernel)
set_option maxRecDepth 100000 in
theorem gl_X9_shift : GoodIn lw_tbl (wsV RL 171 RX9 yX9_shift wsX9_shift) := goodIn_sub (List.forall_mem_cons.mpr ⟨tw_1367, (List.forall_mem_cons.mpr ⟨tw_1368, (List.forall_mem_cons.mpr ⟨tw_1369, (List.forall_mem_cons.mpr ⟨tw_83, dl_wsX9_shift⟩)⟩)⟩)⟩) (by decide +kernel)
