def LawOk (g : XC) (b L : Nat) (sc : Nat → Int) : Prop := (∃ ys : Nat → Int32, va_X b L ys (xs g) (xs g).heap ∧ ∀ k, sc k = (ys k).toInt) ∧ b < (xs g).heap.size ∧ ¬ xA g b
section LAWROWS
variable {g : XC} {k n : Nat} {ws : va_W} {pc : Nat} {L : List (Nat × Value)} {st : List Value} {cc : ByteArray} {own : String} {Ts : List Cond} {R0 : Room} {N0 b Ls : Nat} {sc : Nat → Int}
theorem r_sld (C : XOk g cc own Ts R0 N0) (LW : LawOk g b Ls sc) {z : Int} (d : decode cc pc = .ok (.iaload, 1)) (hin : iin z Ls = true) (kk : WW g k n ws (pc + 1) L (.int (jz (sc (ix z))) :: st)) : WW g k n ws pc L (.int (jz z) :: .ref b :: st) := fun H locs ls hP hD hS hl => by
  obtain ⟨⟨xs', h1, h2⟩, h3, h4⟩ := LW
  have h5 := kk H locs ls hP hD hS hl
  rw [h2, jz_to] at h5
  exact va_sld C.1 C.2.1 h1 h3 h4 hS (iin_in hin) d h5
theorem r_slen (C : XOk g cc own Ts R0 N0) (LW : LawOk g b Ls sc) (d : decode cc pc = .ok (.arraylength, 1)) (kk : WW g k n ws (pc + 1) L (.int (jz (Ls : Int)) :: st)) : WW g k n ws pc L (.ref b :: st) := fun H locs ls hP hD hS hl => by
  obtain ⟨⟨xs', h1, h2⟩, h3, h4⟩ := LW
  have h5 := kk H locs ls hP hD hS hl
  rw [show jz (Ls : Int) = Int32.ofNat Ls from Int32.ofInt_eq_ofNat] at h5
  exact va_slen C.1 C.2.1 h1 h3 h4 hS d h5
theorem r_icmp_eqT (C : XOk g cc own Ts R0 N0) {a : Int32} {off : Int} (tgt : Nat) (d : decode cc pc = .ok (.if_icmp .eq off, 3)) (ht : (pc : Int) + off = (tgt : Int)) (kk : WW g k n ws tgt L st) : WW g k n ws pc L (.int a :: .int a :: st) := fun H locs ls hP hD hS hl => lv_icmp_eq C.1 C.2.1 d ht (fun _ => kk H locs ls hP hD hS hl) (fun q => absurd rfl q)
theorem r_if_lcT (C : XOk g cc own Ts R0 N0) {a : Int64} {off : Int} (tgt : Nat) (d : decode cc pc = .ok (.ifCond .eq off, 3)) (ht : (pc : Int) + off = (tgt : Int)) (kk : WW g k n ws tgt L st) : WW g k n ws pc L (.int (jz (lcmI a a)) :: st) := fun H locs ls hP hD hS hl => lv_if_eq C.1 C.2.1 d ht (fun _ => kk H locs ls hP hD hS hl) (fun q => absurd (by unfold lcmI; rw [jz_to]; simp [lg_cmp]) q)
end LAWROWS
abbrev wLaw (G : gG) (qx rw q : Nat → Nat) (x : Nat → Int) (X : Nat → Nat → Int) (kx : Nat → Int64) (it : Nat → Nat → Int64) (F : Nat → Int) (B : Nat → Nat → Int) (cl bt : Nat → Int64) : va_W := [((qx 0), .inr (7, [.ref (qx 1), .ref (qx 12), .int (jz (x 0)), .ref (qx 23), .ref (qx 25), .ref (qx 30), .ref (qx 36), .ref (qx 39)])), ((qx 1), .inr (2, [.ref (qx 2), .ref (qx 4), .ref (qx 5), .ref (qx 6), .ref (qx 8), .ref (qx 10)])), ((qx 2), .inr (4, [.int (jz (x 1)), .ref (qx 3)])), ((qx 3), aI G 25 (X 0)), ((qx 4), aI G 5 (X 1)), ((qx 5), aI G 5 (X 2)), ((qx 6), .inr (1, [.int (jz (x 2)), .ref (qx 7), .int (jz (x 3))])), ((qx 7), aI G 12 (X 3)), ((qx 8), .inr (1, [.int (jz (x 4)), .ref (qx 9), .int (jz (x 5))])), ((qx 9), aI G 24 (X 4)), ((qx 10), .inr (1, [.int (jz (x 6)), .ref (qx 11), .int (jz (x 7))])), ((qx 11), aI G 24 (X 5)), ((qx 12), .inr (2, [.ref (qx 13), .ref (qx 15), .ref (qx 16), .ref (qx 17), .ref (qx 19), .ref (qx 21)])), ((qx 13), .inr (4, [.int (jz (x 8)), .ref (qx 14)])), ((qx 14), aI G 25 (X 6)), ((qx 15), aI G 5 (X 7)), ((qx 16), aI G 5 (X 8)), ((qx 17), .inr (1, [.int (jz (x 9)), .ref (qx 18), .int (jz (x 10))])), ((qx 18), aI G 12 (X 9)), ((qx 19), .inr (1, [.int (jz (x 11)), .ref (qx 20), .int (jz (x 12))])), ((qx 20), aI G 24 (X 10)), ((qx 21), .inr (1, [.int (jz (x 13)), .ref (qx 22), .int (jz (x 14))])), ((qx 22), aI G 24 (X 11)), ((qx 23), .inr (4, [.int (jz (x 15)), .ref (qx 24)])), ((qx 24), aI G 25 (X 12)), ((qx 25), .inr (3, [.ref (qx 26), .int (jz (x 16)), .ref (qx 28), .ref (qx 29), .int (jz (x 17))])), ((qx 26), .inr (4, [.int (jz (x 18)), .ref (qx 27)])), ((qx 27), aI G 25 (X 13)), ((qx 28), aI G 15 (X 14)), ((qx 29), aI G 15 (X 15)), ((qx 30), .inr (0, [.ref (qx 31), .int (jz (x 19)), .ref (qx 33), .ref (qx 34), .ref (qx 35), .int (jz (x 20)), .int (jz (x 21))])), ((qx 31), .inr (4, [.int (jz (x 22)), .ref (qx 32)])), ((qx 32), aI G 25 (X 16)), ((qx 33), aI G 5 (X 17)), ((qx 34), aJ G 37 kx), ((qx 35), aI G 37 (X 18)), ((qx 36), .inr (6, [.ref (qx 37), .int (jz (x 23)), .ref (qx 38), .int (jz (x 24))])), ((qx 37), aB G 100 (X 19)), ((qx 38), aI G 12 (X 20)), ((qx 39), .inr (5, [.ref (qx 40), .ref (qx 41), .ref (qx 42)])), ((qx 40), aL G 6 rw), (rw 0, aJ G 60 (it 0)), (rw 1, aJ G 60 (it 1)), (rw 2, aJ G 60 (it 2)), (rw 3, aJ G 60 (it 3)), (rw 4, aJ G 60 (it 4)), (rw 5, aJ G 60 (it 5)), ((qx 41), aI G 6 (X 21)), ((qx 42), aI G 6 (X 22)), (q 35, oX9 F q), ((q 1), aI G 25 (B 1)), ((q 2), aI G 5 (B 2)), ((q 3), aI G 5 (B 3)), ((q 5), aI G 4 (B 5)), ((q 6), aI G 4 (B 6)), ((q 8), aI G 8 (B 8)), ((q 9), aI G 8 (B 9)), ((q 11), aI G 8 (B 11)), ((q 12), aI G 8 (B 12)), ((q 13), aI G 8 (B 13)), ((q 14), aI G 100 (B 14)), ((q 16), aI G 6 (B 16)), ((q 17), aI G 6 (B 17)), ((q 18), aJ G 360 cl), ((q 19), aJ G 60 bt), ((q 20), aI G 25 (B 20)), ((q 21), aI G 25 (B 21)), ((q 22), aI G 5 (B 22)), ((q 24), aI G 2000 (B 24)), ((q 25), aI G 5 (B 25)), ((q 26), aI G 6 (B 26)), ((q 29), aI G 12 (B 29)), ((q 30), aI G 12 (B 30)), ((q 31), aI G 12 (B 31)), ((q 32), aI G 12 (B 32)), ((q 34), aI G 88 (B 34))]
-- points
set_option maxRecDepth 100000 in
set_option maxHeartbeats 4000000 in
theorem law_0 {g : XC} (C : XOk g cL_law RL lw_tbl room_1 4) {b L : Nat} {sc : Nat → Int} (LW : LawOk g b L sc) (qx rw q : Nat → Nat) (x : Nat → Int) (X : Nat → Nat → Int) (kx : Nat → Int64) (it : Nat → Nat → Int64) (F : Nat → Int) (B : Nat → Nat → Int) (cl bt : Nat → Int64) (i : Int) (h1 : iin (i + 1) L = true) (h2 : iin (i + 2) L = true) (h3 : iin (i + 3) L = true) (h4 : iin (i + 4) L = true) (h5 : iin (i + 5) L = true) (r : Int) (o0 : Int) (o1 : Nat → Int) (o2 : Nat → Int) (o3 : Nat → Int) (o0' : Int) (o1' : Nat → Int) (o2' : Nat → Int) (o3' : Nat → Int) (eX : f_X8_points (sc (ix (i + 1))) (x 1) (X 0) (X 1) (X 2) = some (r, o0, o1, o2, o3)) (eM : f_X9_points (sc (ix (i + 1))) (F 0) (B 1) (B 2) (B 3) = some (r, o0', o1', o2', o3')) (kk : WW g 600000 7302250 (wLaw (xG g) qx rw q (up x 1 o0) (up (up (up X 0 o1) 1 o2) 2 o3) kx it (up F 0 o0') (up (up (up B 1 o1') 2 o2') 3 o3') cl bt) 1360 [(0, .ref b), (1, .ref (qx 0)), (2, .ref (q 35)), (3, .int (jz i))] []) : WW g 600000 7302250 (wLaw (xG g) qx rw q x X kx it F B cl bt) 196 [(0, .ref b), (1, .ref (qx 0)), (2, .ref (q 35)), (3, .int (jz i))] [] := by
  refine r_aload_n C (pc := 196) dL_law_196 rfl 1 rfl ?_
  refine r_aload_n C (pc := 197) dL_law_197 rfl 0 rfl ?_
  refine r_iload_n C (pc := 198) dL_law_198 rfl 3 rfl ?_
  refine r_iconst C (pc := 199) dL_law_199 ?_
  refine r_iadd C (pc := 200) dL_law_200 ?_
  refine r_sld C LW (pc := 201) dL_law_201 h1 ?_
  refine b_cVi C (pc := 202) dL_law_202 (c_X8_points (xl g) (xG g) (qx 0) (qx 1) (qx 12) (qx 23) (qx 25) (qx 30) (qx 36) (qx 39) (qx 2) (qx 4) (qx 5) (qx 6) (qx 8) (qx 10) (qx 3) (x 0) (x 1) (X 0) (X 1) (X 2) (sc (ix (i + 1))) r o0 o1 o2 o3 eX) rfl gl_X8_points ⟨rfl, rfl⟩ 1 hd_X8_points ⟨(Nat.le_of_ble_eq_true rfl), (Nat.le_of_ble_eq_true rfl)⟩ rfl 0 rfl rfl rfl [0, 1, 2, 3, 4, 5] rfl (srt_nd 0 rfl) (ws' := wLaw (xG g) qx rw q (up x 1 o0) (up (up (up X 0 o1) 1 o2) 2 o3) kx it F B cl bt) (Put.m rfl rfl rfl) rfl (rest := []) rfl (Nat.le_of_ble_eq_true rfl) ⟨Nat.le_refl _, Nat.le_refl _⟩ ?_
  refine r_aload_n C (pc := 205) dL_law_205 rfl 2 rfl ?_
  refine r_aload_n C (pc := 206) dL_law_206 rfl 0 rfl ?_
  refine r_iload_n C (pc := 207) dL_law_207 rfl 3 rfl ?_
  refine r_iconst C (pc := 208) dL_law_208 ?_
  refine r_iadd C (pc := 209) dL_law_209 ?_
  refine r_sld C LW (pc := 210) dL_law_210 h1 ?_
  refine b_cVi C (pc := 211) dL_law_211 (c_X9_points (xl g) (xG g) q F (B 1) (B 2) (B 3) (sc (ix (i + 1))) r o0' o1' o2' o3' eM) rfl gl_X9_points ⟨rfl, rfl⟩ 1 hd_X9_points ⟨(Nat.le_of_ble_eq_true rfl), (Nat.le_of_ble_eq_true rfl)⟩ rfl 49 rfl rfl rfl [49, 50, 51, 52] rfl (srt_nd 0 rfl) (ws' := wLaw (xG g) qx rw q (up x 1 o0) (up (up (up X 0 o1) 1 o2) 2 o3) kx it (up F 0 o0') (up (up (up B 1 o1') 2 o2') 3 o3') cl bt) (Put.m rfl rfl rfl) rfl (rest := [.int (jz r)]) rfl (Nat.le_of_ble_eq_true rfl) ⟨Nat.le_refl _, Nat.le_refl _⟩ ?_
  refine r_icmp_eqT C (pc := 214) 1360 dL_law_214 rfl ?_
  exact kk

-- set
set_option maxRecDepth 100000 in
set_option maxHeartbeats 4000000 in
theorem law_1 {g : XC} (C : XOk g cL_law RL lw_tbl room_1 4) {b L : Nat} {sc : Nat → Int} (LW : LawOk g b L sc) (qx rw q : Nat → Nat) (x : Nat → Int) (X : Nat → Nat → Int) (kx : Nat → Int64) (it : Nat → Nat → Int64) (F : Nat → Int) (B : Nat → Nat → Int) (cl bt : Nat → Int64) (i : Int) (h1 : iin (i + 1) L = true) (h2 : iin (i + 2) L = true) (h3 : iin (i + 3) L = true) (h4 : iin (i + 4) L = true) (h5 : iin (i + 5) L = true) (r : Int) (o0 : Nat → Int) (o0' : Nat → Int) (eX : f_X8_set (sc (ix (i + 1))) (sc (ix (i + 2))) (sc (ix (i + 3))) (x 1) (X 0) = some (r, o0)) (eM : f_X9_set (sc (ix (i + 1))) (sc (ix (i + 2))) (sc (ix (i + 3))) (F 0) (B 1) = some (r, o0')) (kk : WW g 600000 7302250 (wLaw (xG g) qx rw q x (up X 0 o0) kx it F (up B 1 o0') cl bt) 1360 [(0, .ref b), (1, .ref (qx 0)), (2, .ref (q 35)), (3, .int (jz i))] []) : WW g 600000 7302250 (wLaw (xG g) qx rw q x X kx it F B cl bt) 219 [(0, .ref b), (1, .ref (qx 0)), (2, .ref (q 35)), (3, .int (jz i))] [] := by
  refine r_aload_n C (pc := 219) dL_law_219 rfl 1 rfl ?_
  refine r_aload_n C (pc := 220) dL_law_220 rfl 0 rfl ?_
  refine r_iload_n C (pc := 221) dL_law_221 rfl 3 rfl ?_
  refine r_iconst C (pc := 222) dL_law_222 ?_
  refine r_iadd C (pc := 223) dL_law_223 ?_
  refine r_sld C LW (pc := 224) dL_law_224 h1 ?_
  refine r_aload_n C (pc := 225) dL_law_225 rfl 0 rfl ?_
  refine r_iload_n C (pc := 226) dL_law_226 rfl 3 rfl ?_
  refine r_iconst C (pc := 227) dL_law_227 ?_
  refine r_iadd C (pc := 228) dL_law_228 ?_
  refine r_sld C LW (pc := 229) dL_law_229 h2 ?_
  refine r_aload_n C (pc := 230) dL_law_230 rfl 0 rfl ?_
  refine r_iload_n C (pc := 231) dL_law_231 rfl 3 rfl ?_
  refine r_iconst C (pc := 232) dL_law_232 ?_
  refine r_iadd C (pc := 233) dL_law_233 ?_
  refine r_sld C LW (pc := 234) dL_law_234 h3 ?_
  refine b_cVi C (pc := 235) dL_law_235 (c_X8_set (xl g) (xG g) (qx 0) (qx 1) (qx 12) (qx 23) (qx 25) (qx 30) (qx 36) (qx 39) (qx 2) (qx 4) (qx 5) (qx 6) (qx 8) (qx 10) (qx 3) (x 0) (x 1) (X 0) (sc (ix (i + 1))) (sc (ix (i + 2))) (sc (ix (i + 3))) r o0 eX) rfl gl_X8_set ⟨rfl, rfl⟩ 3 hd_X8_set ⟨(Nat.le_of_ble_eq_true rfl), (Nat.le_of_ble_eq_true rfl)⟩ rfl 0 rfl rfl rfl [0, 1, 2, 3] rfl (srt_nd 0 rfl) (ws' := wLaw (xG g) qx rw q x (up X 0 o0) kx it F B cl bt) (Put.m rfl rfl rfl) rfl (rest := []) rfl (Nat.le_of_ble_eq_true rfl) ⟨Nat.le_refl _, Nat.le_refl _⟩ ?_
  refine r_aload_n C (pc := 238) dL_law_238 rfl 2 rfl ?_
  refine r_aload_n C (pc := 239) dL_law_239 rfl 0 rfl ?_
  refine r_iload_n C (pc := 240) dL_law_240 rfl 3 rfl ?_
  refine r_iconst C (pc := 241) dL_law_241 ?_
  refine r_iadd C (pc := 242) dL_law_242 ?_
  refine r_sld C LW (pc := 243) dL_law_243 h1 ?_
  refine r_aload_n C (pc := 244) dL_law_244 rfl 0 rfl ?_
  refine r_iload_n C (pc := 245) dL_law_245 rfl 3 rfl ?_
  refine r_iconst C (pc := 246) dL_law_246 ?_
  refine r_iadd C (pc := 247) dL_law_247 ?_
  refine r_sld C LW (pc := 248) dL_law_248 h2 ?_
  refine r_aload_n C (pc := 249) dL_law_249 rfl 0 rfl ?_
  refine r_iload_n C (pc := 250) dL_law_250 rfl 3 rfl ?_
  refine r_iconst C (pc := 251) dL_law_251 ?_
  refine r_iadd C (pc := 252) dL_law_252 ?_
  refine r_sld C LW (pc := 253) dL_law_253 h3 ?_
  refine b_cVi C (pc := 254) dL_law_254 (c_X9_set (xl g) (xG g) q F (B 1) (sc (ix (i + 1))) (sc (ix (i + 2))) (sc (ix (i + 3))) r o0' eM) rfl gl_X9_set ⟨rfl, rfl⟩ 3 hd_X9_set ⟨(Nat.le_of_ble_eq_true rfl), (Nat.le_of_ble_eq_true rfl)⟩ rfl 49 rfl rfl rfl [49, 50] rfl (srt_nd 0 rfl) (ws' := wLaw (xG g) qx rw q x (up X 0 o0) kx it F (up B 1 o0') cl bt) (Put.m rfl rfl rfl) rfl (rest := [.int (jz r)]) rfl (Nat.le_of_ble_eq_true rfl) ⟨Nat.le_refl _, Nat.le_refl _⟩ ?_
  refine r_icmp_eqT C (pc := 257) 1360 dL_law_257 rfl ?_
  exact kk

-- shorten
set_option maxRecDepth 100000 in
set_option maxHeartbeats 4000000 in
theorem law_2 {g : XC} (C : XOk g cL_law RL lw_tbl room_1 4) {b L : Nat} {sc : Nat → Int} (LW : LawOk g b L sc) (qx rw q : Nat → Nat) (x : Nat → Int) (X : Nat → Nat → Int) (kx : Nat → Int64) (it : Nat → Nat → Int64) (F : Nat → Int) (B : Nat → Nat → Int) (cl bt : Nat → Int64) (i : Int) (h1 : iin (i + 1) L = true) (h2 : iin (i + 2) L = true) (h3 : iin (i + 3) L = true) (h4 : iin (i + 4) L = true) (h5 : iin (i + 5) L = true) (r : Int) (o0 : Nat → Int) (o1 : Int) (o2 : Nat → Int) (o0' : Nat → Int) (o1' : Nat → Int) (eX : f_X8_shorten (x 1) (X 0) (x 15) (X 12) = some (r, o0, o1, o2)) (eM : f_X9_shorten (F 0) (B 1) (B 20) = some (r, o0', o1')) (kk : WW g 600000 7302250 (wLaw (xG g) qx rw q (up x 15 o1) (up (up X 0 o0) 12 o2) kx it F (up (up B 1 o0') 20 o1') cl bt) 1360 [(0, .ref b), (1, .ref (qx 0)), (2, .ref (q 35)), (3, .int (jz i))] []) : WW g 600000 7302250 (wLaw (xG g) qx rw q x X kx it F B cl bt) 262 [(0, .ref b), (1, .ref (qx 0)), (2, .ref (q 35)), (3, .int (jz i))] [] := by
  refine r_aload_n C (pc := 262) dL_law_262 rfl 1 rfl ?_
  refine b_cVi C (pc := 263) dL_law_263 (c_X8_shorten (xl g) (xG g) (qx 0) (qx 1) (qx 12) (qx 23) (qx 25) (qx 30) (qx 36) (qx 39) (qx 2) (qx 4) (qx 5) (qx 6) (qx 8) (qx 10) (qx 3) (qx 24) (x 0) (x 1) (X 0) (x 15) (X 12) r o0 o1 o2 eX) rfl gl_X8_shorten ⟨rfl, rfl⟩ 0 hd_X8_shorten ⟨(Nat.le_of_ble_eq_true rfl), (Nat.le_of_ble_eq_true rfl)⟩ rfl 0 rfl rfl rfl [0, 1, 2, 3, 23, 24] rfl (srt_nd 0 rfl) (ws' := wLaw (xG g) qx rw q (up x 15 o1) (up (up X 0 o0) 12 o2) kx it F B cl bt) (Put.m rfl rfl rfl) rfl (rest := []) rfl (Nat.le_of_ble_eq_true rfl) ⟨Nat.le_refl _, Nat.le_refl _⟩ ?_
  refine r_aload_n C (pc := 266) dL_law_266 rfl 2 rfl ?_
  refine b_cVi C (pc := 267) dL_law_267 (c_X9_shorten (xl g) (xG g) q F (B 1) (B 20) r o0' o1' eM) rfl gl_X9_shorten ⟨rfl, rfl⟩ 0 hd_X9_shorten ⟨(Nat.le_of_ble_eq_true rfl), (Nat.le_of_ble_eq_true rfl)⟩ rfl 49 rfl rfl rfl [49, 50, 65] rfl (srt_nd 0 rfl) (ws' := wLaw (xG g) qx rw q (up x 15 o1) (up (up X 0 o0) 12 o2) kx it F (up (up B 1 o0') 20 o1') cl bt) (Put.m rfl rfl rfl) rfl (rest := [.int (jz r)]) rfl (Nat.le_of_ble_eq_true rfl) ⟨Nat.le_refl _, Nat.le_refl _⟩ ?_
  refine r_icmp_eqT C (pc := 270) 1360 dL_law_270 rfl ?_
  exact kk

-- function
set_option maxRecDepth 100000 in
set_option maxHeartbeats 4000000 in
theorem law_3 {g : XC} (C : XOk g cL_law RL lw_tbl room_1 4) {b L : Nat} {sc : Nat → Int} (LW : LawOk g b L sc) (qx rw q : Nat → Nat) (x : Nat → Int) (X : Nat → Nat → Int) (kx : Nat → Int64) (it : Nat → Nat → Int64) (F : Nat → Int) (B : Nat → Nat → Int) (cl bt : Nat → Int64) (i : Int) (h1 : iin (i + 1) L = true) (h2 : iin (i + 2) L = true) (h3 : iin (i + 3) L = true) (h4 : iin (i + 4) L = true) (h5 : iin (i + 5) L = true) (r : Int) (o0 : Nat → Int) (o0' : Nat → Int) (eX : f_X8_function (sc (ix (i + 1))) (sc (ix (i + 2))) (x 1) (X 1) = some (r, o0)) (eM : f_X9_function (sc (ix (i + 1))) (sc (ix (i + 2))) (F 0) (B 2) = some (r, o0')) (kk : WW g 600000 7302250 (wLaw (xG g) qx rw q x (up X 1 o0) kx it F (up B 2 o0') cl bt) 1360 [(0, .ref b), (1, .ref (qx 0)), (2, .ref (q 35)), (3, .int (jz i))] []) : WW g 600000 7302250 (wLaw (xG g) qx rw q x X kx it F B cl bt) 275 [(0, .ref b), (1, .ref (qx 0)), (2, .ref (q 35)), (3, .int (jz i))] [] := by
  refine r_aload_n C (pc := 275) dL_law_275 rfl 1 rfl ?_
  refine r_aload_n C (pc := 276) dL_law_276 rfl 0 rfl ?_
  refine r_iload_n C (pc := 277) dL_law_277 rfl 3 rfl ?_
  refine r_iconst C (pc := 278) dL_law_278 ?_
  refine r_iadd C (pc := 279) dL_law_279 ?_
  refine r_sld C LW (pc := 280) dL_law_280 h1 ?_
  refine r_aload_n C (pc := 281) dL_law_281 rfl 0 rfl ?_
  refine r_iload_n C (pc := 282) dL_law_282 rfl 3 rfl ?_
  refine r_iconst C (pc := 283) dL_law_283 ?_
  refine r_iadd C (pc := 284) dL_law_284 ?_
  refine r_sld C LW (pc := 285) dL_law_285 h2 ?_
  refine b_cVi C (pc := 286) dL_law_286 (c_X8_function (xl g) (xG g) (qx 0) (qx 1) (qx 12) (qx 23) (qx 25) (qx 30) (qx 36) (qx 39) (qx 2) (qx 4) (qx 5) (qx 6) (qx 8) (qx 10) (qx 3) (x 0) (x 1) (X 1) (sc (ix (i + 1))) (sc (ix (i + 2))) r o0 eX) rfl gl_X8_function ⟨rfl, rfl⟩ 2 hd_X8_function ⟨(Nat.le_of_ble_eq_true rfl), (Nat.le_of_ble_eq_true rfl)⟩ rfl 0 rfl rfl rfl [0, 1, 2, 4] rfl (srt_nd 0 rfl) (ws' := wLaw (xG g) qx rw q x (up X 1 o0) kx it F B cl bt) (Put.m rfl rfl rfl) rfl (rest := []) rfl (Nat.le_of_ble_eq_true rfl) ⟨Nat.le_refl _, Nat.le_refl _⟩ ?_
  refine r_aload_n C (pc := 289) dL_law_289 rfl 2 rfl ?_
  refine r_aload_n C (pc := 290) dL_law_290 rfl 0 rfl ?_
  refine r_iload_n C (pc := 291) dL_law_291 rfl 3 rfl ?_
  refine r_iconst C (pc := 292) dL_law_292 ?_
  refine r_iadd C (pc := 293) dL_law_293 ?_
  refine r_sld C LW (pc := 294) dL_law_294 h1 ?_
  refine r_aload_n C (pc := 295) dL_law_295 rfl 0 rfl ?_
  refine r_iload_n C (pc := 296) dL_law_296 rfl 3 rfl ?_
  refine r_iconst C (pc := 297) dL_law_297 ?_
  refine r_iadd C (pc := 298) dL_law_298 ?_
  refine r_sld C LW (pc := 299) dL_law_299 h2 ?_
  refine b_cVi C (pc := 300) dL_law_300 (c_X9_function (xl g) (xG g) q F (B 2) (sc (ix (i + 1))) (sc (ix (i + 2))) r o0' eM) rfl gl_X9_function ⟨rfl, rfl⟩ 2 hd_X9_function ⟨(Nat.le_of_ble_eq_true rfl), (Nat.le_of_ble_eq_true rfl)⟩ rfl 49 rfl rfl rfl [49, 51] rfl (srt_nd 0 rfl) (ws' := wLaw (xG g) qx rw q x (up X 1 o0) kx it F (up B 2 o0') cl bt) (Put.m rfl rfl rfl) rfl (rest := [.int (jz r)]) rfl (Nat.le_of_ble_eq_true rfl) ⟨Nat.le_refl _, Nat.le_refl _⟩ ?_
  refine r_icmp_eqT C (pc := 303) 1360 dL_law_303 rfl ?_
  exact kk

-- least
set_option maxRecDepth 100000 in
set_option maxHeartbeats 4000000 in
theorem law_4 {g : XC} (C : XOk g cL_law RL lw_tbl room_1 4) {b L : Nat} {sc : Nat → Int} (LW : LawOk g b L sc) (qx rw q : Nat → Nat) (x : Nat → Int) (X : Nat → Nat → Int) (kx : Nat → Int64) (it : Nat → Nat → Int64) (F : Nat → Int) (B : Nat → Nat → Int) (cl bt : Nat → Int64) (i : Int) (h1 : iin (i + 1) L = true) (h2 : iin (i + 2) L = true) (h3 : iin (i + 3) L = true) (h4 : iin (i + 4) L = true) (h5 : iin (i + 5) L = true) (r : Int) (o0 : Nat → Int) (o1 : Int) (o2 : Int) (o3 : Int) (o4 : Int) (o5 : Nat → Int) (o6 : Nat → Int) (o7 : Nat → Int64) (o8 : Nat → Int) (o0' : Int) (o1' : Nat → Int) (o2' : Nat → Int) (o3' : Nat → Int) (o4' : Nat → Int) (eX : f_X8_least (sc (ix (i + 1))) (sc (ix (i + 2))) (x 1) (X 0) (X 1) (x 19) (x 20) (x 21) (x 22) (X 16) (X 17) kx (X 18) = some (r, o0, o1, o2, o3, o4, o5, o6, o7, o8)) (eM : f_X9_least (sc (ix (i + 1))) (sc (ix (i + 2))) (F 0) (F 23) (B 1) (B 2) (B 24) (B 25) (B 26) = some (r, o0', o1', o2', o3', o4')) (kk : WW g 600000 7302250 (wLaw (xG g) qx rw q (up (up (up (up x 19 o1) 20 o2) 21 o3) 22 o4) (up (up (up (up X 1 o0) 16 o5) 17 o6) 18 o8) o7 it (up F 23 o0') (up (up (up (up B 2 o1') 24 o2') 25 o3') 26 o4') cl bt) 1360 [(0, .ref b), (1, .ref (qx 0)), (2, .ref (q 35)), (3, .int (jz i))] []) : WW g 600000 7302250 (wLaw (xG g) qx rw q x X kx it F B cl bt) 308 [(0, .ref b), (1, .ref (qx 0)), (2, .ref (q 35)), (3, .int (jz i))] [] := by
  refine r_aload_n C (pc := 308) dL_law_308 rfl 1 rfl ?_
  refine r_aload_n C (pc := 309) dL_law_309 rfl 0 rfl ?_
  refine r_iload_n C (pc := 310) dL_law_310 rfl 3 rfl ?_
  refine r_iconst C (pc := 311) dL_law_311 ?_
  refine r_iadd C (pc := 312) dL_law_312 ?_
  refine r_sld C LW (pc := 313) dL_law_313 h1 ?_
  refine r_aload_n C (pc := 314) dL_law_314 rfl 0 rfl ?_
  refine r_iload_n C (pc := 315) dL_law_315 rfl 3 rfl ?_
  refine r_iconst C (pc := 316) dL_law_316 ?_
  refine r_iadd C (pc := 317) dL_law_317 ?_
  refine r_sld C LW (pc := 318) dL_law_318 h2 ?_
  refine b_cVi C (pc := 319) dL_law_319 (c_X8_least (xl g) (xG g) (qx 0) (qx 1) (qx 12) (qx 23) (qx 25) (qx 30) (qx 36) (qx 39) (qx 2) (qx 4) (qx 5) (qx 6) (qx 8) (qx 10) (qx 3) (qx 31) (qx 33) (qx 34) (qx 35) (qx 32) (x 0) (x 1) (X 0) (X 1) (x 19) (x 20) (x 21) (x 22) (X 16) (X 17) kx (X 18) (sc (ix (i + 1))) (sc (ix (i + 2))) r o0 o1 o2 o3 o4 o5 o6 o7 o8 eX) rfl gl_X8_least ⟨rfl, rfl⟩ 2 hd_X8_least ⟨(Nat.le_of_ble_eq_true rfl), (Nat.le_of_ble_eq_true rfl)⟩ rfl 0 rfl rfl rfl [0, 1, 2, 3, 4, 30, 31, 32, 33, 34, 35] rfl (srt_nd 0 rfl) (ws' := wLaw (xG g) qx rw q (up (up (up (up x 19 o1) 20 o2) 21 o3) 22 o4) (up (up (up (up X 1 o0) 16 o5) 17 o6) 18 o8) o7 it F B cl bt) (Put.m rfl rfl rfl) rfl (rest := []) rfl (Nat.le_of_ble_eq_true rfl) ⟨Nat.le_refl _, Nat.le_refl _⟩ ?_
  refine r_aload_n C (pc := 322) dL_law_322 rfl 2 rfl ?_
  refine r_aload_n C (pc := 323) dL_law_323 rfl 0 rfl ?_
  refine r_iload_n C (pc := 324) dL_law_324 rfl 3 rfl ?_
  refine r_iconst C (pc := 325) dL_law_325 ?_
  refine r_iadd C (pc := 326) dL_law_326 ?_
  refine r_sld C LW (pc := 327) dL_law_327 h1 ?_
  refine r_aload_n C (pc := 328) dL_law_328 rfl 0 rfl ?_
  refine r_iload_n C (pc := 329) dL_law_329 rfl 3 rfl ?_
  refine r_iconst C (pc := 330) dL_law_330 ?_
  refine r_iadd C (pc := 331) dL_law_331 ?_
  refine r_sld C LW (pc := 332) dL_law_332 h2 ?_
  refine b_cVi C (pc := 333) dL_law_333 (c_X9_least (xl g) (xG g) q F (B 1) (B 2) (B 24) (B 25) (B 26) (sc (ix (i + 1))) (sc (ix (i + 2))) r o0' o1' o2' o3' o4' eM) rfl gl_X9_least ⟨rfl, rfl⟩ 2 hd_X9_least ⟨(Nat.le_of_ble_eq_true rfl), (Nat.le_of_ble_eq_true rfl)⟩ rfl 49 rfl rfl rfl [49, 50, 51, 68, 69, 70] rfl (srt_nd 0 rfl) (ws' := wLaw (xG g) qx rw q (up (up (up (up x 19 o1) 20 o2) 21 o3) 22 o4) (up (up (up (up X 1 o0) 16 o5) 17 o6) 18 o8) o7 it (up F 23 o0') (up (up (up (up B 2 o1') 24 o2') 25 o3') 26 o4') cl bt) (Put.m rfl rfl rfl) rfl (rest := [.int (jz r)]) rfl (Nat.le_of_ble_eq_true rfl) ⟨Nat.le_refl _, Nat.le_refl _⟩ ?_
  refine r_icmp_eqT C (pc := 336) 1360 dL_law_336 rfl ?_
  exact kk

-- map
set_option maxRecDepth 100000 in
set_option maxHeartbeats 4000000 in
theorem law_5 {g : XC} (C : XOk g cL_law RL lw_tbl room_1 4) {b L : Nat} {sc : Nat → Int} (LW : LawOk g b L sc) (qx rw q : Nat → Nat) (x : Nat → Int) (X : Nat → Nat → Int) (kx : Nat → Int64) (it : Nat → Nat → Int64) (F : Nat → Int) (B : Nat → Nat → Int) (cl bt : Nat → Int64) (i : Int) (h1 : iin (i + 1) L = true) (h2 : iin (i + 2) L = true) (h3 : iin (i + 3) L = true) (h4 : iin (i + 4) L = true) (h5 : iin (i + 5) L = true) (r : Int) (o0 : Nat → Int) (o0' : Nat → Int) (eX : f_X8_map (sc (ix (i + 1))) (sc (ix (i + 2))) (x 1) (X 2) = some (r, o0)) (eM : f_X9_map (sc (ix (i + 1))) (sc (ix (i + 2))) (F 0) (B 3) = some (r, o0')) (kk : WW g 600000 7302250 (wLaw (xG g) qx rw q x (up X 2 o0) kx it F (up B 3 o0') cl bt) 1360 [(0, .ref b), (1, .ref (qx 0)), (2, .ref (q 35)), (3, .int (jz i))] []) : WW g 600000 7302250 (wLaw (xG g) qx rw q x X kx it F B cl bt) 341 [(0, .ref b), (1, .ref (qx 0)), (2, .ref (q 35)), (3, .int (jz i))] [] := by
  refine r_aload_n C (pc := 341) dL_law_341 rfl 1 rfl ?_
  refine r_aload_n C (pc := 342) dL_law_342 rfl 0 rfl ?_
  refine r_iload_n C (pc := 343) dL_law_343 rfl 3 rfl ?_
  refine r_iconst C (pc := 344) dL_law_344 ?_
  refine r_iadd C (pc := 345) dL_law_345 ?_
  refine r_sld C LW (pc := 346) dL_law_346 h1 ?_
  refine r_aload_n C (pc := 347) dL_law_347 rfl 0 rfl ?_
  refine r_iload_n C (pc := 348) dL_law_348 rfl 3 rfl ?_
  refine r_iconst C (pc := 349) dL_law_349 ?_
  refine r_iadd C (pc := 350) dL_law_350 ?_
  refine r_sld C LW (pc := 351) dL_law_351 h2 ?_
  refine b_cVi C (pc := 352) dL_law_352 (c_X8_map (xl g) (xG g) (qx 0) (qx 1) (qx 12) (qx 23) (qx 25) (qx 30) (qx 36) (qx 39) (qx 2) (qx 4) (qx 5) (qx 6) (qx 8) (qx 10) (qx 3) (x 0) (x 1) (X 2) (sc (ix (i + 1))) (sc (ix (i + 2))) r o0 eX) rfl gl_X8_map ⟨rfl, rfl⟩ 2 hd_X8_map ⟨(Nat.le_of_ble_eq_true rfl), (Nat.le_of_ble_eq_true rfl)⟩ rfl 0 rfl rfl rfl [0, 1, 2, 5] rfl (srt_nd 0 rfl) (ws' := wLaw (xG g) qx rw q x (up X 2 o0) kx it F B cl bt) (Put.m rfl rfl rfl) rfl (rest := []) rfl (Nat.le_of_ble_eq_true rfl) ⟨Nat.le_refl _, Nat.le_refl _⟩ ?_
  refine r_aload_n C (pc := 355) dL_law_355 rfl 2 rfl ?_
  refine r_aload_n C (pc := 356) dL_law_356 rfl 0 rfl ?_
  refine r_iload_n C (pc := 357) dL_law_357 rfl 3 rfl ?_
  refine r_iconst C (pc := 358) dL_law_358 ?_
  refine r_iadd C (pc := 359) dL_law_359 ?_
  refine r_sld C LW (pc := 360) dL_law_360 h1 ?_
  refine r_aload_n C (pc := 361) dL_law_361 rfl 0 rfl ?_
  refine r_iload_n C (pc := 362) dL_law_362 rfl 3 rfl ?_
  refine r_iconst C (pc := 363) dL_law_363 ?_
  refine r_iadd C (pc := 364) dL_law_364 ?_
  refine r_sld C LW (pc := 365) dL_law_365 h2 ?_
  refine b_cVi C (pc := 366) dL_law_366 (c_X9_map (xl g) (xG g) q F (B 3) (sc (ix (i + 1))) (sc (ix (i + 2))) r o0' eM) rfl gl_X9_map ⟨rfl, rfl⟩ 2 hd_X9_map ⟨(Nat.le_of_ble_eq_true rfl), (Nat.le_of_ble_eq_true rfl)⟩ rfl 49 rfl rfl rfl [49, 52] rfl (srt_nd 0 rfl) (ws' := wLaw (xG g) qx rw q x (up X 2 o0) kx it F (up B 3 o0') cl bt) (Put.m rfl rfl rfl) rfl (rest := [.int (jz r)]) rfl (Nat.le_of_ble_eq_true rfl) ⟨Nat.le_refl _, Nat.le_refl _⟩ ?_
  refine r_icmp_eqT C (pc := 369) 1360 dL_law_369 rfl ?_
  exact kk

-- feed
set_option maxRecDepth 100000 in
set_option maxHeartbeats 4000000 in
theorem law_6 {g : XC} (C : XOk g cL_law RL lw_tbl room_1 4) {b L : Nat} {sc : Nat → Int} (LW : LawOk g b L sc) (qx rw q : Nat → Nat) (x : Nat → Int) (X : Nat → Nat → Int) (kx : Nat → Int64) (it : Nat → Nat → Int64) (F : Nat → Int) (B : Nat → Nat → Int) (cl bt : Nat → Int64) (i : Int) (h1 : iin (i + 1) L = true) (h2 : iin (i + 2) L = true) (h3 : iin (i + 3) L = true) (h4 : iin (i + 4) L = true) (h5 : iin (i + 5) L = true) (r : Int) (o0 : Int) (o1 : Nat → Int) (o0' : Int) (o1' : Nat → Int) (eX : f_X8_feed (sc (ix (i + 1))) (x 23) (X 19) = some (r, o0, o1)) (eM : f_X9_feed (sc (ix (i + 1))) (F 15) (B 14) = some (r, o0', o1')) (kk : WW g 600000 7302250 (wLaw (xG g) qx rw q (up x 23 o0) (up X 19 o1) kx it (up F 15 o0') (up B 14 o1') cl bt) 1360 [(0, .ref b), (1, .ref (qx 0)), (2, .ref (q 35)), (3, .int (jz i))] []) : WW g 600000 7302250 (wLaw (xG g) qx rw q x X kx it F B cl bt) 374 [(0, .ref b), (1, .ref (qx 0)), (2, .ref (q 35)), (3, .int (jz i))] [] := by
  refine r_aload_n C (pc := 374) dL_law_374 rfl 1 rfl ?_
  refine r_aload_n C (pc := 375) dL_law_375 rfl 0 rfl ?_
  refine r_iload_n C (pc := 376) dL_law_376 rfl 3 rfl ?_
  refine r_iconst C (pc := 377) dL_law_377 ?_
  refine r_iadd C (pc := 378) dL_law_378 ?_
  refine r_sld C LW (pc := 379) dL_law_379 h1 ?_
  refine b_cVi C (pc := 380) dL_law_380 (c_X8_feed (xl g) (xG g) (qx 0) (qx 1) (qx 12) (qx 23) (qx 25) (qx 30) (qx 36) (qx 39) (qx 37) (qx 38) (x 0) (x 23) (x 24) (X 19) (sc (ix (i + 1))) r o0 o1 eX) rfl gl_X8_feed ⟨rfl, rfl⟩ 1 hd_X8_feed ⟨(Nat.le_of_ble_eq_true rfl), (Nat.le_of_ble_eq_true rfl)⟩ rfl 0 rfl rfl rfl [0, 36, 37] rfl (srt_nd 0 rfl) (ws' := wLaw (xG g) qx rw q (up x 23 o0) (up X 19 o1) kx it F B cl bt) (Put.m rfl rfl rfl) rfl (rest := []) rfl (Nat.le_of_ble_eq_true rfl) ⟨Nat.le_refl _, Nat.le_refl _⟩ ?_
  refine r_aload_n C (pc := 383) dL_law_383 rfl 2 rfl ?_
  refine r_aload_n C (pc := 384) dL_law_384 rfl 0 rfl ?_
  refine r_iload_n C (pc := 385) dL_law_385 rfl 3 rfl ?_
  refine r_iconst C (pc := 386) dL_law_386 ?_
  refine r_iadd C (pc := 387) dL_law_387 ?_
  refine r_sld C LW (pc := 388) dL_law_388 h1 ?_
  refine b_cVi C (pc := 389) dL_law_389 (c_X9_feed (xl g) (xG g) q F (B 14) (sc (ix (i + 1))) r o0' o1' eM) rfl gl_X9_feed ⟨rfl, rfl⟩ 1 hd_X9_feed ⟨(Nat.le_of_ble_eq_true rfl), (Nat.le_of_ble_eq_true rfl)⟩ rfl 49 rfl rfl rfl [49, 60] rfl (srt_nd 0 rfl) (ws' := wLaw (xG g) qx rw q (up x 23 o0) (up X 19 o1) kx it (up F 15 o0') (up B 14 o1') cl bt) (Put.m rfl rfl rfl) rfl (rest := [.int (jz r)]) rfl (Nat.le_of_ble_eq_true rfl) ⟨Nat.le_refl _, Nat.le_refl _⟩ ?_
  refine r_icmp_eqT C (pc := 392) 1360 dL_law_392 rfl ?_
  exact kk

-- read
set_option maxRecDepth 100000 in
set_option maxHeartbeats 4000000 in
theorem law_7 {g : XC} (C : XOk g cL_law RL lw_tbl room_1 4) {b L : Nat} {sc : Nat → Int} (LW : LawOk g b L sc) (qx rw q : Nat → Nat) (x : Nat → Int) (X : Nat → Nat → Int) (kx : Nat → Int64) (it : Nat → Nat → Int64) (F : Nat → Int) (B : Nat → Nat → Int) (cl bt : Nat → Int64) (i : Int) (h1 : iin (i + 1) L = true) (h2 : iin (i + 2) L = true) (h3 : iin (i + 3) L = true) (h4 : iin (i + 4) L = true) (h5 : iin (i + 5) L = true) (r : Int) (o0 : Int) (o1 : Nat → Int) (o2 : Nat → Int) (o3 : Nat → Int) (o4 : Int) (o5 : Int) (o6 : Nat → Int) (o0' : Int) (o1' : Int) (o2' : Int) (o3' : Int) (o4' : Nat → Int) (o5' : Nat → Int) (o6' : Nat → Int) (o7' : Nat → Int) (o8' : Nat → Int) (o9' : Nat → Int) (o10' : Nat → Int) (o11' : Nat → Int) (eX : f_X8_read (x 1) (X 0) (X 1) (X 2) (x 23) (x 24) (X 19) (X 20) = some (r, o0, o1, o2, o3, o4, o5, o6)) (eM : f_X9_read (F 0) (F 15) (F 27) (F 28) (B 1) (B 2) (B 3) (B 14) (B 20) (B 29) (B 30) (B 31) (B 32) = some (r, o0', o1', o2', o3', o4', o5', o6', o7', o8', o9', o10', o11')) (kk : WW g 600000 7302250 (wLaw (xG g) qx rw q (up (up (up x 1 o0) 23 o4) 24 o5) (up (up (up (up X 0 o1) 1 o2) 2 o3) 20 o6) kx it (up (up (up (up F 0 o0') 15 o1') 27 o2') 28 o3') (up (up (up (up (up (up (up (up B 1 o4') 2 o5') 3 o6') 20 o7') 29 o8') 30 o9') 31 o10') 32 o11') cl bt) 1360 [(0, .ref b), (1, .ref (qx 0)), (2, .ref (q 35)), (3, .int (jz i))] []) : WW g 600000 7302250 (wLaw (xG g) qx rw q x X kx it F B cl bt) 397 [(0, .ref b), (1, .ref (qx 0)), (2, .ref (q 35)), (3, .int (jz i))] [] := by
  refine r_aload_n C (pc := 397) dL_law_397 rfl 1 rfl ?_
  refine b_cVi C (pc := 398) dL_law_398 (c_X8_read (xl g) (xG g) (qx 0) (qx 1) (qx 12) (qx 23) (qx 25) (qx 30) (qx 36) (qx 39) (qx 2) (qx 4) (qx 5) (qx 6) (qx 8) (qx 10) (qx 3) (qx 37) (qx 38) (x 0) (x 1) (X 0) (X 1) (X 2) (x 23) (x 24) (X 19) (X 20) r o0 o1 o2 o3 o4 o5 o6 eX) rfl gl_X8_read ⟨rfl, rfl⟩ 0 hd_X8_read ⟨(Nat.le_of_ble_eq_true rfl), (Nat.le_of_ble_eq_true rfl)⟩ rfl 0 rfl rfl rfl [0, 1, 2, 3, 4, 5, 36, 37, 38] rfl (srt_nd 0 rfl) (ws' := wLaw (xG g) qx rw q (up (up (up x 1 o0) 23 o4) 24 o5) (up (up (up (up X 0 o1) 1 o2) 2 o3) 20 o6) kx it F B cl bt) (Put.m rfl rfl rfl) rfl (rest := []) rfl (Nat.le_of_ble_eq_true rfl) ⟨Nat.le_refl _, Nat.le_refl _⟩ ?_
  refine r_aload_n C (pc := 401) dL_law_401 rfl 2 rfl ?_
  refine b_cVi C (pc := 402) dL_law_402 (c_X9_read (xl g) (xG g) q F (B 1) (B 2) (B 3) (B 14) (B 20) (B 29) (B 30) (B 31) (B 32) r o0' o1' o2' o3' o4' o5' o6' o7' o8' o9' o10' o11' eM) rfl gl_X9_read ⟨rfl, rfl⟩ 0 hd_X9_read ⟨(Nat.le_of_ble_eq_true rfl), (Nat.le_of_ble_eq_true rfl)⟩ rfl 49 rfl rfl rfl [49, 50, 51, 52, 60, 65, 71, 72, 73, 74] rfl (srt_nd 0 rfl) (ws' := wLaw (xG g) qx rw q (up (up (up x 1 o0) 23 o4) 24 o5) (up (up (up (up X 0 o1) 1 o2) 2 o3) 20 o6) kx it (up (up (up (up F 0 o0') 15 o1') 27 o2') 28 o3') (up (up (up (up (up (up (up (up B 1 o4') 2 o5') 3 o6') 20 o7') 29 o8') 30 o9') 31 o10') 32 o11') cl bt) (Put.m rfl rfl rfl) rfl (rest := [.int (jz r)]) rfl (Nat.le_of_ble_eq_true rfl) ⟨Nat.le_refl _, Nat.le_refl _⟩ ?_
  refine r_icmp_eqT C (pc := 405) 1360 dL_law_405 rfl ?_
  exact kk

-- of
set_option maxRecDepth 100000 in
set_option maxHeartbeats 4000000 in
theorem law_8 {g : XC} (C : XOk g cL_law RL lw_tbl room_1 4) {b L : Nat} {sc : Nat → Int} (LW : LawOk g b L sc) (qx rw q : Nat → Nat) (x : Nat → Int) (X : Nat → Nat → Int) (kx : Nat → Int64) (it : Nat → Nat → Int64) (F : Nat → Int) (B : Nat → Nat → Int) (cl bt : Nat → Int64) (i : Int) (h1 : iin (i + 1) L = true) (h2 : iin (i + 2) L = true) (h3 : iin (i + 3) L = true) (h4 : iin (i + 4) L = true) (h5 : iin (i + 5) L = true) (r : Int) (o0 : Int) (o1 : Nat → Int) (o2 : Int) (o3 : Int) (o4 : Int) (o5 : Nat → Int) (o6 : Nat → Int) (o7 : Nat → Int) (o0' : Nat → Int) (o1' : Nat → Int) (o2' : Nat → Int) (eX : f_X8_of (sc (ix (i + 1))) (sc (ix (i + 2))) (sc (ix (i + 3))) (x 1) (X 0) (x 15) (X 12) (x 16) (x 17) (x 18) (X 13) (X 14) (X 15) = some (r, o0, o1, o2, o3, o4, o5, o6, o7)) (eM : f_X9_of (sc (ix (i + 1))) (sc (ix (i + 2))) (sc (ix (i + 3))) (F 0) (B 1) (B 20) (B 21) = some (r, o0', o1', o2')) (kk : WW g 600000 7302250 (wLaw (xG g) qx rw q (up (up (up (up x 15 o0) 16 o2) 17 o3) 18 o4) (up (up (up (up X 12 o1) 13 o5) 14 o6) 15 o7) kx it F (up (up (up B 1 o0') 20 o1') 21 o2') cl bt) 1360 [(0, .ref b), (1, .ref (qx 0)), (2, .ref (q 35)), (3, .int (jz i))] []) : WW g 600000 7302250 (wLaw (xG g) qx rw q x X kx it F B cl bt) 410 [(0, .ref b), (1, .ref (qx 0)), (2, .ref (q 35)), (3, .int (jz i))] [] := by
  refine r_aload_n C (pc := 410) dL_law_410 rfl 1 rfl ?_
  refine r_aload_n C (pc := 411) dL_law_411 rfl 0 rfl ?_
  refine r_iload_n C (pc := 412) dL_law_412 rfl 3 rfl ?_
  refine r_iconst C (pc := 413) dL_law_413 ?_
  refine r_iadd C (pc := 414) dL_law_414 ?_
  refine r_sld C LW (pc := 415) dL_law_415 h1 ?_
  refine r_aload_n C (pc := 416) dL_law_416 rfl 0 rfl ?_
  refine r_iload_n C (pc := 417) dL_law_417 rfl 3 rfl ?_
  refine r_iconst C (pc := 418) dL_law_418 ?_
  refine r_iadd C (pc := 419) dL_law_419 ?_
  refine r_sld C LW (pc := 420) dL_law_420 h2 ?_
  refine r_aload_n C (pc := 421) dL_law_421 rfl 0 rfl ?_
  refine r_iload_n C (pc := 422) dL_law_422 rfl 3 rfl ?_
  refine r_iconst C (pc := 423) dL_law_423 ?_
  refine r_iadd C (pc := 424) dL_law_424 ?_
  refine r_sld C LW (pc := 425) dL_law_425 h3 ?_
  refine b_cVi C (pc := 426) dL_law_426 (c_X8_of (xl g) (xG g) (qx 0) (qx 1) (qx 12) (qx 23) (qx 25) (qx 30) (qx 36) (qx 39) (qx 2) (qx 4) (qx 5) (qx 6) (qx 8) (qx 10) (qx 3) (qx 24) (qx 26) (qx 28) (qx 29) (qx 27) (x 0) (x 1) (X 0) (x 15) (X 12) (x 16) (x 17) (x 18) (X 13) (X 14) (X 15) (sc (ix (i + 1))) (sc (ix (i + 2))) (sc (ix (i + 3))) r o0 o1 o2 o3 o4 o5 o6 o7 eX) rfl gl_X8_of ⟨rfl, rfl⟩ 3 hd_X8_of ⟨(Nat.le_of_ble_eq_true rfl), (Nat.le_of_ble_eq_true rfl)⟩ rfl 0 rfl rfl rfl [0, 1, 2, 3, 23, 24, 25, 26, 27, 28, 29] rfl (srt_nd 0 rfl) (ws' := wLaw (xG g) qx rw q (up (up (up (up x 15 o0) 16 o2) 17 o3) 18 o4) (up (up (up (up X 12 o1) 13 o5) 14 o6) 15 o7) kx it F B cl bt) (Put.m rfl rfl rfl) rfl (rest := []) rfl (Nat.le_of_ble_eq_true rfl) ⟨Nat.le_refl _, Nat.le_refl _⟩ ?_
  refine r_aload_n C (pc := 429) dL_law_429 rfl 2 rfl ?_
  refine r_aload_n C (pc := 430) dL_law_430 rfl 0 rfl ?_
  refine r_iload_n C (pc := 431) dL_law_431 rfl 3 rfl ?_
  refine r_iconst C (pc := 432) dL_law_432 ?_
  refine r_iadd C (pc := 433) dL_law_433 ?_
  refine r_sld C LW (pc := 434) dL_law_434 h1 ?_
  refine r_aload_n C (pc := 435) dL_law_435 rfl 0 rfl ?_
  refine r_iload_n C (pc := 436) dL_law_436 rfl 3 rfl ?_
  refine r_iconst C (pc := 437) dL_law_437 ?_
  refine r_iadd C (pc := 438) dL_law_438 ?_
  refine r_sld C LW (pc := 439) dL_law_439 h2 ?_
  refine r_aload_n C (pc := 440) dL_law_440 rfl 0 rfl ?_
  refine r_iload_n C (pc := 441) dL_law_441 rfl 3 rfl ?_
  refine r_iconst C (pc := 442) dL_law_442 ?_
  refine r_iadd C (pc := 443) dL_law_443 ?_
  refine r_sld C LW (pc := 444) dL_law_444 h3 ?_
  refine b_cVi C (pc := 445) dL_law_445 (c_X9_of (xl g) (xG g) q F (B 1) (B 20) (B 21) (sc (ix (i + 1))) (sc (ix (i + 2))) (sc (ix (i + 3))) r o0' o1' o2' eM) rfl gl_X9_of ⟨rfl, rfl⟩ 3 hd_X9_of ⟨(Nat.le_of_ble_eq_true rfl), (Nat.le_of_ble_eq_true rfl)⟩ rfl 49 rfl rfl rfl [49, 50, 65, 66] rfl (srt_nd 0 rfl) (ws' := wLaw (xG g) qx rw q (up (up (up (up x 15 o0) 16 o2) 17 o3) 18 o4) (up (up (up (up X 12 o1) 13 o5) 14 o6) 15 o7) kx it F (up (up (up B 1 o0') 20 o1') 21 o2') cl bt) (Put.m rfl rfl rfl) rfl (rest := [.int (jz r)]) rfl (Nat.le_of_ble_eq_true rfl) ⟨Nat.le_refl _, Nat.le_refl _⟩ ?_
  refine r_icmp_eqT C (pc := 448) 1360 dL_law_448 rfl ?_
  exact kk

-- told
set_option maxRecDepth 100000 in
set_option maxHeartbeats 4000000 in
theorem law_9 {g : XC} (C : XOk g cL_law RL lw_tbl room_1 4) {b L : Nat} {sc : Nat → Int} (LW : LawOk g b L sc) (qx rw q : Nat → Nat) (x : Nat → Int) (X : Nat → Nat → Int) (kx : Nat → Int64) (it : Nat → Nat → Int64) (F : Nat → Int) (B : Nat → Nat → Int) (cl bt : Nat → Int64) (i : Int) (h1 : iin (i + 1) L = true) (h2 : iin (i + 2) L = true) (h3 : iin (i + 3) L = true) (h4 : iin (i + 4) L = true) (h5 : iin (i + 5) L = true) (r : Int) (o0 : Int) (o1 : Int) (o2 : Int) (o3 : Nat → Int) (o4 : Nat → Int) (o5 : Nat → Int) (o0' : Nat → Int) (eX : f_X8_told (sc (ix (i + 1))) (x 1) (X 0) (x 16) (x 17) (x 18) (X 13) (X 14) (X 15) = some (r, o0, o1, o2, o3, o4, o5)) (eM : f_X9_told (sc (ix (i + 1))) (F 0) (B 1) (B 22) = some (r, o0')) (kk : WW g 600000 7302250 (wLaw (xG g) qx rw q (up (up (up x 16 o0) 17 o1) 18 o2) (up (up (up X 13 o3) 14 o4) 15 o5) kx it F (up B 22 o0') cl bt) 1360 [(0, .ref b), (1, .ref (qx 0)), (2, .ref (q 35)), (3, .int (jz i))] []) : WW g 600000 7302250 (wLaw (xG g) qx rw q x X kx it F B cl bt) 453 [(0, .ref b), (1, .ref (qx 0)), (2, .ref (q 35)), (3, .int (jz i))] [] := by
  refine r_aload_n C (pc := 453) dL_law_453 rfl 1 rfl ?_
  refine r_aload_n C (pc := 454) dL_law_454 rfl 0 rfl ?_
  refine r_iload_n C (pc := 455) dL_law_455 rfl 3 rfl ?_
  refine r_iconst C (pc := 456) dL_law_456 ?_
  refine r_iadd C (pc := 457) dL_law_457 ?_
  refine r_sld C LW (pc := 458) dL_law_458 h1 ?_
  refine b_cVi C (pc := 459) dL_law_459 (c_X8_told (xl g) (xG g) (qx 0) (qx 1) (qx 12) (qx 23) (qx 25) (qx 30) (qx 36) (qx 39) (qx 2) (qx 4) (qx 5) (qx 6) (qx 8) (qx 10) (qx 3) (qx 26) (qx 28) (qx 29) (qx 27) (x 0) (x 1) (X 0) (x 16) (x 17) (x 18) (X 13) (X 14) (X 15) (sc (ix (i + 1))) r o0 o1 o2 o3 o4 o5 eX) rfl gl_X8_told ⟨rfl, rfl⟩ 1 hd_X8_told ⟨(Nat.le_of_ble_eq_true rfl), (Nat.le_of_ble_eq_true rfl)⟩ rfl 0 rfl rfl rfl [0, 1, 2, 3, 25, 26, 27, 28, 29] rfl (srt_nd 0 rfl) (ws' := wLaw (xG g) qx rw q (up (up (up x 16 o0) 17 o1) 18 o2) (up (up (up X 13 o3) 14 o4) 15 o5) kx it F B cl bt) (Put.m rfl rfl rfl) rfl (rest := []) rfl (Nat.le_of_ble_eq_true rfl) ⟨Nat.le_refl _, Nat.le_refl _⟩ ?_
  refine r_aload_n C (pc := 462) dL_law_462 rfl 2 rfl ?_
  refine r_aload_n C (pc := 463) dL_law_463 rfl 0 rfl ?_
  refine r_iload_n C (pc := 464) dL_law_464 rfl 3 rfl ?_
  refine r_iconst C (pc := 465) dL_law_465 ?_
  refine r_iadd C (pc := 466) dL_law_466 ?_
  refine r_sld C LW (pc := 467) dL_law_467 h1 ?_
  refine b_cVi C (pc := 468) dL_law_468 (c_X9_told (xl g) (xG g) q F (B 1) (B 22) (sc (ix (i + 1))) r o0' eM) rfl gl_X9_told ⟨rfl, rfl⟩ 1 hd_X9_told ⟨(Nat.le_of_ble_eq_true rfl), (Nat.le_of_ble_eq_true rfl)⟩ rfl 49 rfl rfl rfl [49, 50, 67] rfl (srt_nd 0 rfl) (ws' := wLaw (xG g) qx rw q (up (up (up x 16 o0) 17 o1) 18 o2) (up (up (up X 13 o3) 14 o4) 15 o5) kx it F (up B 22 o0') cl bt) (Put.m rfl rfl rfl) rfl (rest := [.int (jz r)]) rfl (Nat.le_of_ble_eq_true rfl) ⟨Nat.le_refl _, Nat.le_refl _⟩ ?_
  refine r_icmp_eqT C (pc := 471) 1360 dL_law_471 rfl ?_
  exact kk

-- functionOf
set_option maxRecDepth 100000 in
set_option maxHeartbeats 4000000 in
theorem law_10 {g : XC} (C : XOk g cL_law RL lw_tbl room_1 4) {b L : Nat} {sc : Nat → Int} (LW : LawOk g b L sc) (qx rw q : Nat → Nat) (x : Nat → Int) (X : Nat → Nat → Int) (kx : Nat → Int64) (it : Nat → Nat → Int64) (F : Nat → Int) (B : Nat → Nat → Int) (cl bt : Nat → Int64) (i : Int) (h1 : iin (i + 1) L = true) (h2 : iin (i + 2) L = true) (h3 : iin (i + 3) L = true) (h4 : iin (i + 4) L = true) (h5 : iin (i + 5) L = true) (r : Int) (eX : f_X8_functionOf (sc (ix (i + 1))) (x 1) (X 0) (X 1) = some r) (eM : f_X9_functionOf (sc (ix (i + 1))) (F 0) (B 1) (B 2) = some r) (kk : WW g 600000 7302250 (wLaw (xG g) qx rw q x X kx it F B cl bt) 1360 [(0, .ref b), (1, .ref (qx 0)), (2, .ref (q 35)), (3, .int (jz i))] []) : WW g 600000 7302250 (wLaw (xG g) qx rw q x X kx it F B cl bt) 476 [(0, .ref b), (1, .ref (qx 0)), (2, .ref (q 35)), (3, .int (jz i))] [] := by
  refine r_aload_n C (pc := 476) dL_law_476 rfl 1 rfl ?_
  refine r_aload_n C (pc := 477) dL_law_477 rfl 0 rfl ?_
  refine r_iload_n C (pc := 478) dL_law_478 rfl 3 rfl ?_
  refine r_iconst C (pc := 479) dL_law_479 ?_
  refine r_iadd C (pc := 480) dL_law_480 ?_
  refine r_sld C LW (pc := 481) dL_law_481 h1 ?_
  refine b_cVi C (pc := 482) dL_law_482 (c_X8_functionOf (xl g) (xG g) (qx 0) (qx 1) (qx 12) (qx 23) (qx 25) (qx 30) (qx 36) (qx 39) (qx 2) (qx 4) (qx 5) (qx 6) (qx 8) (qx 10) (qx 3) (x 0) (x 1) (X 0) (X 1) (sc (ix (i + 1))) r eX) rfl gl_X8_functionOf ⟨rfl, rfl⟩ 1 hd_X8_functionOf ⟨(Nat.le_of_ble_eq_true rfl), (Nat.le_of_ble_eq_true rfl)⟩ rfl 0 rfl rfl rfl [0, 1, 2, 3, 4] rfl (srt_nd 0 rfl) (ws' := wLaw (xG g) qx rw q x X kx it F B cl bt) (Put.m rfl rfl rfl) rfl (rest := []) rfl (Nat.le_of_ble_eq_true rfl) ⟨Nat.le_refl _, Nat.le_refl _⟩ ?_
  refine r_aload_n C (pc := 485) dL_law_485 rfl 2 rfl ?_
  refine r_aload_n C (pc := 486) dL_law_486 rfl 0 rfl ?_
  refine r_iload_n C (pc := 487) dL_law_487 rfl 3 rfl ?_
  refine r_iconst C (pc := 488) dL_law_488 ?_
  refine r_iadd C (pc := 489) dL_law_489 ?_
  refine r_sld C LW (pc := 490) dL_law_490 h1 ?_
  refine b_cVi C (pc := 491) dL_law_491 (c_X9_functionOf (xl g) (xG g) q F (B 1) (B 2) (sc (ix (i + 1))) r eM) rfl gl_X9_functionOf ⟨rfl, rfl⟩ 1 hd_X9_functionOf ⟨(Nat.le_of_ble_eq_true rfl), (Nat.le_of_ble_eq_true rfl)⟩ rfl 49 rfl rfl rfl [49, 50, 51] rfl (srt_nd 0 rfl) (ws' := wLaw (xG g) qx rw q x X kx it F B cl bt) (Put.m rfl rfl rfl) rfl (rest := [.int (jz r)]) rfl (Nat.le_of_ble_eq_true rfl) ⟨Nat.le_refl _, Nat.le_refl _⟩ ?_
  refine r_icmp_eqT C (pc := 494) 1360 dL_law_494 rfl ?_
  exact kk

-- mapOf
set_option maxRecDepth 100000 in
set_option maxHeartbeats 4000000 in
theorem law_11 {g : XC} (C : XOk g cL_law RL lw_tbl room_1 4) {b L : Nat} {sc : Nat → Int} (LW : LawOk g b L sc) (qx rw q : Nat → Nat) (x : Nat → Int) (X : Nat → Nat → Int) (kx : Nat → Int64) (it : Nat → Nat → Int64) (F : Nat → Int) (B : Nat → Nat → Int) (cl bt : Nat → Int64) (i : Int) (h1 : iin (i + 1) L = true) (h2 : iin (i + 2) L = true) (h3 : iin (i + 3) L = true) (h4 : iin (i + 4) L = true) (h5 : iin (i + 5) L = true) (r : Int) (eX : f_X8_mapOf (sc (ix (i + 1))) (x 1) (X 0) (X 2) = some r) (eM : f_X9_mapOf (sc (ix (i + 1))) (F 0) (B 1) (B 3) = some r) (kk : WW g 600000 7302250 (wLaw (xG g) qx rw q x X kx it F B cl bt) 1360 [(0, .ref b), (1, .ref (qx 0)), (2, .ref (q 35)), (3, .int (jz i))] []) : WW g 600000 7302250 (wLaw (xG g) qx rw q x X kx it F B cl bt) 499 [(0, .ref b), (1, .ref (qx 0)), (2, .ref (q 35)), (3, .int (jz i))] [] := by
  refine r_aload_n C (pc := 499) dL_law_499 rfl 1 rfl ?_
  refine r_aload_n C (pc := 500) dL_law_500 rfl 0 rfl ?_
  refine r_iload_n C (pc := 501) dL_law_501 rfl 3 rfl ?_
  refine r_iconst C (pc := 502) dL_law_502 ?_
  refine r_iadd C (pc := 503) dL_law_503 ?_
  refine r_sld C LW (pc := 504) dL_law_504 h1 ?_
  refine b_cVi C (pc := 505) dL_law_505 (c_X8_mapOf (xl g) (xG g) (qx 0) (qx 1) (qx 12) (qx 23) (qx 25) (qx 30) (qx 36) (qx 39) (qx 2) (qx 4) (qx 5) (qx 6) (qx 8) (qx 10) (qx 3) (x 0) (x 1) (X 0) (X 2) (sc (ix (i + 1))) r eX) rfl gl_X8_mapOf ⟨rfl, rfl⟩ 1 hd_X8_mapOf ⟨(Nat.le_of_ble_eq_true rfl), (Nat.le_of_ble_eq_true rfl)⟩ rfl 0 rfl rfl rfl [0, 1, 2, 3, 5] rfl (srt_nd 0 rfl) (ws' := wLaw (xG g) qx rw q x X kx it F B cl bt) (Put.m rfl rfl rfl) rfl (rest := []) rfl (Nat.le_of_ble_eq_true rfl) ⟨Nat.le_refl _, Nat.le_refl _⟩ ?_
  refine r_aload_n C (pc := 508) dL_law_508 rfl 2 rfl ?_
  refine r_aload_n C (pc := 509) dL_law_509 rfl 0 rfl ?_
  refine r_iload_n C (pc := 510) dL_law_510 rfl 3 rfl ?_
  refine r_iconst C (pc := 511) dL_law_511 ?_
  refine r_iadd C (pc := 512) dL_law_512 ?_
  refine r_sld C LW (pc := 513) dL_law_513 h1 ?_
  refine b_cVi C (pc := 514) dL_law_514 (c_X9_mapOf (xl g) (xG g) q F (B 1) (B 3) (sc (ix (i + 1))) r eM) rfl gl_X9_mapOf ⟨rfl, rfl⟩ 1 hd_X9_mapOf ⟨(Nat.le_of_ble_eq_true rfl), (Nat.le_of_ble_eq_true rfl)⟩ rfl 49 rfl rfl rfl [49, 50, 52] rfl (srt_nd 0 rfl) (ws' := wLaw (xG g) qx rw q x X kx it F B cl bt) (Put.m rfl rfl rfl) rfl (rest := [.int (jz r)]) rfl (Nat.le_of_ble_eq_true rfl) ⟨Nat.le_refl _, Nat.le_refl _⟩ ?_
  refine r_icmp_eqT C (pc := 517) 1360 dL_law_517 rfl ?_
  exact kk

-- middle
set_option maxRecDepth 100000 in
set_option maxHeartbeats 4000000 in
theorem law_12 {g : XC} (C : XOk g cL_law RL lw_tbl room_1 4) {b L : Nat} {sc : Nat → Int} (LW : LawOk g b L sc) (qx rw q : Nat → Nat) (x : Nat → Int) (X : Nat → Nat → Int) (kx : Nat → Int64) (it : Nat → Nat → Int64) (F : Nat → Int) (B : Nat → Nat → Int) (cl bt : Nat → Int64) (i : Int) (h1 : iin (i + 1) L = true) (h2 : iin (i + 2) L = true) (h3 : iin (i + 3) L = true) (h4 : iin (i + 4) L = true) (h5 : iin (i + 5) L = true) (r : Int) (eX : f_X8_middle (sc (ix (i + 1))) (sc (ix (i + 2))) (sc (ix (i + 3))) (x 1) (X 0) = some r) (eM : f_X9_middle (sc (ix (i + 1))) (sc (ix (i + 2))) (sc (ix (i + 3))) (F 0) (B 1) = some r) (kk : WW g 600000 7302250 (wLaw (xG g) qx rw q x X kx it F B cl bt) 1360 [(0, .ref b), (1, .ref (qx 0)), (2, .ref (q 35)), (3, .int (jz i))] []) : WW g 600000 7302250 (wLaw (xG g) qx rw q x X kx it F B cl bt) 522 [(0, .ref b), (1, .ref (qx 0)), (2, .ref (q 35)), (3, .int (jz i))] [] := by
  refine r_aload_n C (pc := 522) dL_law_522 rfl 1 rfl ?_
  refine r_aload_n C (pc := 523) dL_law_523 rfl 0 rfl ?_
  refine r_iload_n C (pc := 524) dL_law_524 rfl 3 rfl ?_
  refine r_iconst C (pc := 525) dL_law_525 ?_
  refine r_iadd C (pc := 526) dL_law_526 ?_
  refine r_sld C LW (pc := 527) dL_law_527 h1 ?_
  refine r_aload_n C (pc := 528) dL_law_528 rfl 0 rfl ?_
  refine r_iload_n C (pc := 529) dL_law_529 rfl 3 rfl ?_
  refine r_iconst C (pc := 530) dL_law_530 ?_
  refine r_iadd C (pc := 531) dL_law_531 ?_
  refine r_sld C LW (pc := 532) dL_law_532 h2 ?_
  refine r_aload_n C (pc := 533) dL_law_533 rfl 0 rfl ?_
  refine r_iload_n C (pc := 534) dL_law_534 rfl 3 rfl ?_
  refine r_iconst C (pc := 535) dL_law_535 ?_
  refine r_iadd C (pc := 536) dL_law_536 ?_
  refine r_sld C LW (pc := 537) dL_law_537 h3 ?_
  refine b_cVi C (pc := 538) dL_law_538 (c_X8_middle (xl g) (xG g) (qx 0) (qx 1) (qx 12) (qx 23) (qx 25) (qx 30) (qx 36) (qx 39) (qx 2) (qx 4) (qx 5) (qx 6) (qx 8) (qx 10) (qx 3) (x 0) (x 1) (X 0) (sc (ix (i + 1))) (sc (ix (i + 2))) (sc (ix (i + 3))) r eX) rfl gl_X8_middle ⟨rfl, rfl⟩ 3 hd_X8_middle ⟨(Nat.le_of_ble_eq_true rfl), (Nat.le_of_ble_eq_true rfl)⟩ rfl 0 rfl rfl rfl [0, 1, 2, 3] rfl (srt_nd 0 rfl) (ws' := wLaw (xG g) qx rw q x X kx it F B cl bt) (Put.m rfl rfl rfl) rfl (rest := []) rfl (Nat.le_of_ble_eq_true rfl) ⟨Nat.le_refl _, Nat.le_refl _⟩ ?_
  refine r_aload_n C (pc := 541) dL_law_541 rfl 2 rfl ?_
  refine r_aload_n C (pc := 542) dL_law_542 rfl 0 rfl ?_
  refine r_iload_n C (pc := 543) dL_law_543 rfl 3 rfl ?_
  refine r_iconst C (pc := 544) dL_law_544 ?_
  refine r_iadd C (pc := 545) dL_law_545 ?_
  refine r_sld C LW (pc := 546) dL_law_546 h1 ?_
  refine r_aload_n C (pc := 547) dL_law_547 rfl 0 rfl ?_
  refine r_iload_n C (pc := 548) dL_law_548 rfl 3 rfl ?_
  refine r_iconst C (pc := 549) dL_law_549 ?_
  refine r_iadd C (pc := 550) dL_law_550 ?_
  refine r_sld C LW (pc := 551) dL_law_551 h2 ?_
  refine r_aload_n C (pc := 552) dL_law_552 rfl 0 rfl ?_
  refine r_iload_n C (pc := 553) dL_law_553 rfl 3 rfl ?_
  refine r_iconst C (pc := 554) dL_law_554 ?_
  refine r_iadd C (pc := 555) dL_law_555 ?_
  refine r_sld C LW (pc := 556) dL_law_556 h3 ?_
  refine b_cVi C (pc := 557) dL_law_557 (c_X9_middle (xl g) (xG g) q F (B 1) (sc (ix (i + 1))) (sc (ix (i + 2))) (sc (ix (i + 3))) r eM) rfl gl_X9_middle ⟨rfl, rfl⟩ 3 hd_X9_middle ⟨(Nat.le_of_ble_eq_true rfl), (Nat.le_of_ble_eq_true rfl)⟩ rfl 49 rfl rfl rfl [49, 50] rfl (srt_nd 0 rfl) (ws' := wLaw (xG g) qx rw q x X kx it F B cl bt) (Put.m rfl rfl rfl) rfl (rest := [.int (jz r)]) rfl (Nat.le_of_ble_eq_true rfl) ⟨Nat.le_refl _, Nat.le_refl _⟩ ?_
  refine r_icmp_eqT C (pc := 560) 1360 dL_law_560 rfl ?_
  exact kk

-- corners
set_option maxRecDepth 100000 in
set_option maxHeartbeats 4000000 in
theorem law_13 {g : XC} (C : XOk g cL_law RL lw_tbl room_1 4) {b L : Nat} {sc : Nat → Int} (LW : LawOk g b L sc) (qx rw q : Nat → Nat) (x : Nat → Int) (X : Nat → Nat → Int) (kx : Nat → Int64) (it : Nat → Nat → Int64) (F : Nat → Int) (B : Nat → Nat → Int) (cl bt : Nat → Int64) (i : Int) (h1 : iin (i + 1) L = true) (h2 : iin (i + 2) L = true) (h3 : iin (i + 3) L = true) (h4 : iin (i + 4) L = true) (h5 : iin (i + 5) L = true) (r : Int) (o0 : Int) (o1 : Int) (o2 : Int) (o3 : Int) (o4 : Nat → Int) (o5 : Nat → Int) (o6 : Nat → Int64) (o7 : Nat → Int) (o0' : Int) (o1' : Nat → Int) (o2' : Nat → Int) (o3' : Nat → Int) (eX : f_X8_corners (x 1) (X 0) (x 19) (x 20) (x 21) (x 22) (X 16) (X 17) kx (X 18) = some (r, o0, o1, o2, o3, o4, o5, o6, o7)) (eM : f_X9_corners (F 0) (F 23) (B 1) (B 24) (B 25) (B 26) = some (r, o0', o1', o2', o3')) (kk : WW g 600000 7302250 (wLaw (xG g) qx rw q (up (up (up (up x 19 o0) 20 o1) 21 o2) 22 o3) (up (up (up X 16 o4) 17 o5) 18 o7) o6 it (up F 23 o0') (up (up (up B 24 o1') 25 o2') 26 o3') cl bt) 1360 [(0, .ref b), (1, .ref (qx 0)), (2, .ref (q 35)), (3, .int (jz i))] []) : WW g 600000 7302250 (wLaw (xG g) qx rw q x X kx it F B cl bt) 565 [(0, .ref b), (1, .ref (qx 0)), (2, .ref (q 35)), (3, .int (jz i))] [] := by
  refine r_aload_n C (pc := 565) dL_law_565 rfl 1 rfl ?_
  refine b_cVi C (pc := 566) dL_law_566 (c_X8_corners (xl g) (xG g) (qx 0) (qx 1) (qx 12) (qx 23) (qx 25) (qx 30) (qx 36) (qx 39) (qx 2) (qx 4) (qx 5) (qx 6) (qx 8) (qx 10) (qx 3) (qx 31) (qx 33) (qx 34) (qx 35) (qx 32) (x 0) (x 1) (X 0) (x 19) (x 20) (x 21) (x 22) (X 16) (X 17) kx (X 18) r o0 o1 o2 o3 o4 o5 o6 o7 eX) rfl gl_X8_corners ⟨rfl, rfl⟩ 0 hd_X8_corners ⟨(Nat.le_of_ble_eq_true rfl), (Nat.le_of_ble_eq_true rfl)⟩ rfl 0 rfl rfl rfl [0, 1, 2, 3, 30, 31, 32, 33, 34, 35] rfl (srt_nd 0 rfl) (ws' := wLaw (xG g) qx rw q (up (up (up (up x 19 o0) 20 o1) 21 o2) 22 o3) (up (up (up X 16 o4) 17 o5) 18 o7) o6 it F B cl bt) (Put.m rfl rfl rfl) rfl (rest := []) rfl (Nat.le_of_ble_eq_true rfl) ⟨Nat.le_refl _, Nat.le_refl _⟩ ?_
  refine r_aload_n C (pc := 569) dL_law_569 rfl 2 rfl ?_
  refine b_cVi C (pc := 570) dL_law_570 (c_X9_corners (xl g) (xG g) q F (B 1) (B 24) (B 25) (B 26) r o0' o1' o2' o3' eM) rfl gl_X9_corners ⟨rfl, rfl⟩ 0 hd_X9_corners ⟨(Nat.le_of_ble_eq_true rfl), (Nat.le_of_ble_eq_true rfl)⟩ rfl 49 rfl rfl rfl [49, 50, 68, 69, 70] rfl (srt_nd 0 rfl) (ws' := wLaw (xG g) qx rw q (up (up (up (up x 19 o0) 20 o1) 21 o2) 22 o3) (up (up (up X 16 o4) 17 o5) 18 o7) o6 it (up F 23 o0') (up (up (up B 24 o1') 25 o2') 26 o3') cl bt) (Put.m rfl rfl rfl) rfl (rest := [.int (jz r)]) rfl (Nat.le_of_ble_eq_true rfl) ⟨Nat.le_refl _, Nat.le_refl _⟩ ?_
  refine r_icmp_eqT C (pc := 573) 1360 dL_law_573 rfl ?_
  exact kk

-- at
set_option maxRecDepth 100000 in
set_option maxHeartbeats 4000000 in
theorem law_14 {g : XC} (C : XOk g cL_law RL lw_tbl room_1 4) {b L : Nat} {sc : Nat → Int} (LW : LawOk g b L sc) (qx rw q : Nat → Nat) (x : Nat → Int) (X : Nat → Nat → Int) (kx : Nat → Int64) (it : Nat → Nat → Int64) (F : Nat → Int) (B : Nat → Nat → Int) (cl bt : Nat → Int64) (i : Int) (h1 : iin (i + 1) L = true) (h2 : iin (i + 2) L = true) (h3 : iin (i + 3) L = true) (h4 : iin (i + 4) L = true) (h5 : iin (i + 5) L = true) (r : Int) (o0 : Int) (o1 : Int) (o2 : Int) (o3 : Int) (o4 : Nat → Int) (o5 : Nat → Int) (o6 : Nat → Int64) (o7 : Nat → Int) (o0' : Int) (o1' : Nat → Int) (o2' : Nat → Int) (o3' : Nat → Int) (eX : f_X8_at (sc (ix (i + 1))) (sc (ix (i + 2))) (x 1) (X 0) (x 19) (x 20) (x 21) (x 22) (X 16) (X 17) kx (X 18) = some (r, o0, o1, o2, o3, o4, o5, o6, o7)) (eM : f_X9_at (sc (ix (i + 1))) (sc (ix (i + 2))) (F 0) (F 23) (B 1) (B 24) (B 25) (B 26) = some (r, o0', o1', o2', o3')) (kk : WW g 600000 7302250 (wLaw (xG g) qx rw q (up (up (up (up x 19 o0) 20 o1) 21 o2) 22 o3) (up (up (up X 16 o4) 17 o5) 18 o7) o6 it (up F 23 o0') (up (up (up B 24 o1') 25 o2') 26 o3') cl bt) 1360 [(0, .ref b), (1, .ref (qx 0)), (2, .ref (q 35)), (3, .int (jz i))] []) : WW g 600000 7302250 (wLaw (xG g) qx rw q x X kx it F B cl bt) 578 [(0, .ref b), (1, .ref (qx 0)), (2, .ref (q 35)), (3, .int (jz i))] [] := by
  refine r_aload_n C (pc := 578) dL_law_578 rfl 1 rfl ?_
  refine r_aload_n C (pc := 579) dL_law_579 rfl 0 rfl ?_
  refine r_iload_n C (pc := 580) dL_law_580 rfl 3 rfl ?_
  refine r_iconst C (pc := 581) dL_law_581 ?_
  refine r_iadd C (pc := 582) dL_law_582 ?_
  refine r_sld C LW (pc := 583) dL_law_583 h1 ?_
  refine r_aload_n C (pc := 584) dL_law_584 rfl 0 rfl ?_
  refine r_iload_n C (pc := 585) dL_law_585 rfl 3 rfl ?_
  refine r_iconst C (pc := 586) dL_law_586 ?_
  refine r_iadd C (pc := 587) dL_law_587 ?_
  refine r_sld C LW (pc := 588) dL_law_588 h2 ?_
  refine b_cVi C (pc := 589) dL_law_589 (c_X8_at (xl g) (xG g) (qx 0) (qx 1) (qx 12) (qx 23) (qx 25) (qx 30) (qx 36) (qx 39) (qx 2) (qx 4) (qx 5) (qx 6) (qx 8) (qx 10) (qx 3) (qx 31) (qx 33) (qx 34) (qx 35) (qx 32) (x 0) (x 1) (X 0) (x 19) (x 20) (x 21) (x 22) (X 16) (X 17) kx (X 18) (sc (ix (i + 1))) (sc (ix (i + 2))) r o0 o1 o2 o3 o4 o5 o6 o7 eX) rfl gl_X8_at ⟨rfl, rfl⟩ 2 hd_X8_at ⟨(Nat.le_of_ble_eq_true rfl), (Nat.le_of_ble_eq_true rfl)⟩ rfl 0 rfl rfl rfl [0, 1, 2, 3, 30, 31, 32, 33, 34, 35] rfl (srt_nd 0 rfl) (ws' := wLaw (xG g) qx rw q (up (up (up (up x 19 o0) 20 o1) 21 o2) 22 o3) (up (up (up X 16 o4) 17 o5) 18 o7) o6 it F B cl bt) (Put.m rfl rfl rfl) rfl (rest := []) rfl (Nat.le_of_ble_eq_true rfl) ⟨Nat.le_refl _, Nat.le_refl _⟩ ?_
  refine r_aload_n C (pc := 592) dL_law_592 rfl 2 rfl ?_
  refine r_aload_n C (pc := 593) dL_law_593 rfl 0 rfl ?_
  refine r_iload_n C (pc := 594) dL_law_594 rfl 3 rfl ?_
  refine r_iconst C (pc := 595) dL_law_595 ?_
  refine r_iadd C (pc := 596) dL_law_596 ?_
  refine r_sld C LW (pc := 597) dL_law_597 h1 ?_
  refine r_aload_n C (pc := 598) dL_law_598 rfl 0 rfl ?_
  refine r_iload_n C (pc := 599) dL_law_599 rfl 3 rfl ?_
  refine r_iconst C (pc := 600) dL_law_600 ?_
  refine r_iadd C (pc := 601) dL_law_601 ?_
  refine r_sld C LW (pc := 602) dL_law_602 h2 ?_
  refine b_cVi C (pc := 603) dL_law_603 (c_X9_at (xl g) (xG g) q F (B 1) (B 24) (B 25) (B 26) (sc (ix (i + 1))) (sc (ix (i + 2))) r o0' o1' o2' o3' eM) rfl gl_X9_at ⟨rfl, rfl⟩ 2 hd_X9_at ⟨(Nat.le_of_ble_eq_true rfl), (Nat.le_of_ble_eq_true rfl)⟩ rfl 49 rfl rfl rfl [49, 50, 68, 69, 70] rfl (srt_nd 0 rfl) (ws' := wLaw (xG g) qx rw q (up (up (up (up x 19 o0) 20 o1) 21 o2) 22 o3) (up (up (up X 16 o4) 17 o5) 18 o7) o6 it (up F 23 o0') (up (up (up B 24 o1') 25 o2') 26 o3') cl bt) (Put.m rfl rfl rfl) rfl (rest := [.int (jz r)]) rfl (Nat.le_of_ble_eq_true rfl) ⟨Nat.le_refl _, Nat.le_refl _⟩ ?_
  refine r_icmp_eqT C (pc := 606) 1360 dL_law_606 rfl ?_
  exact kk

-- corner
set_option maxRecDepth 100000 in
set_option maxHeartbeats 4000000 in
theorem law_15 {g : XC} (C : XOk g cL_law RL lw_tbl room_1 4) {b L : Nat} {sc : Nat → Int} (LW : LawOk g b L sc) (qx rw q : Nat → Nat) (x : Nat → Int) (X : Nat → Nat → Int) (kx : Nat → Int64) (it : Nat → Nat → Int64) (F : Nat → Int) (B : Nat → Nat → Int) (cl bt : Nat → Int64) (i : Int) (h1 : iin (i + 1) L = true) (h2 : iin (i + 2) L = true) (h3 : iin (i + 3) L = true) (h4 : iin (i + 4) L = true) (h5 : iin (i + 5) L = true) (r : Int) (o0 : Int) (o1 : Int) (o2 : Int) (o3 : Int) (o4 : Nat → Int) (o5 : Nat → Int) (o6 : Nat → Int64) (o7 : Nat → Int) (o0' : Int) (o1' : Nat → Int) (o2' : Nat → Int) (o3' : Nat → Int) (eX : f_X8_corner (sc (ix (i + 1))) (sc (ix (i + 2))) (x 1) (X 0) (x 19) (x 20) (x 21) (x 22) (X 16) (X 17) kx (X 18) = some (r, o0, o1, o2, o3, o4, o5, o6, o7)) (eM : f_X9_corner (sc (ix (i + 1))) (sc (ix (i + 2))) (F 0) (F 23) (B 1) (B 24) (B 25) (B 26) = some (r, o0', o1', o2', o3')) (kk : WW g 600000 7302250 (wLaw (xG g) qx rw q (up (up (up (up x 19 o0) 20 o1) 21 o2) 22 o3) (up (up (up X 16 o4) 17 o5) 18 o7) o6 it (up F 23 o0') (up (up (up B 24 o1') 25 o2') 26 o3') cl bt) 1360 [(0, .ref b), (1, .ref (qx 0)), (2, .ref (q 35)), (3, .int (jz i))] []) : WW g 600000 7302250 (wLaw (xG g) qx rw q x X kx it F B cl bt) 611 [(0, .ref b), (1, .ref (qx 0)), (2, .ref (q 35)), (3, .int (jz i))] [] := by
  refine r_aload_n C (pc := 611) dL_law_611 rfl 1 rfl ?_
  refine r_aload_n C (pc := 612) dL_law_612 rfl 0 rfl ?_
  refine r_iload_n C (pc := 613) dL_law_613 rfl 3 rfl ?_
  refine r_iconst C (pc := 614) dL_law_614 ?_
  refine r_iadd C (pc := 615) dL_law_615 ?_
  refine r_sld C LW (pc := 616) dL_law_616 h1 ?_
  refine r_aload_n C (pc := 617) dL_law_617 rfl 0 rfl ?_
  refine r_iload_n C (pc := 618) dL_law_618 rfl 3 rfl ?_
  refine r_iconst C (pc := 619) dL_law_619 ?_
  refine r_iadd C (pc := 620) dL_law_620 ?_
  refine r_sld C LW (pc := 621) dL_law_621 h2 ?_
  refine b_cVi C (pc := 622) dL_law_622 (c_X8_corner (xl g) (xG g) (qx 0) (qx 1) (qx 12) (qx 23) (qx 25) (qx 30) (qx 36) (qx 39) (qx 2) (qx 4) (qx 5) (qx 6) (qx 8) (qx 10) (qx 3) (qx 31) (qx 33) (qx 34) (qx 35) (qx 32) (x 0) (x 1) (X 0) (x 19) (x 20) (x 21) (x 22) (X 16) (X 17) kx (X 18) (sc (ix (i + 1))) (sc (ix (i + 2))) r o0 o1 o2 o3 o4 o5 o6 o7 eX) rfl gl_X8_corner ⟨rfl, rfl⟩ 2 hd_X8_corner ⟨(Nat.le_of_ble_eq_true rfl), (Nat.le_of_ble_eq_true rfl)⟩ rfl 0 rfl rfl rfl [0, 1, 2, 3, 30, 31, 32, 33, 34, 35] rfl (srt_nd 0 rfl) (ws' := wLaw (xG g) qx rw q (up (up (up (up x 19 o0) 20 o1) 21 o2) 22 o3) (up (up (up X 16 o4) 17 o5) 18 o7) o6 it F B cl bt) (Put.m rfl rfl rfl) rfl (rest := []) rfl (Nat.le_of_ble_eq_true rfl) ⟨Nat.le_refl _, Nat.le_refl _⟩ ?_
  refine r_aload_n C (pc := 625) dL_law_625 rfl 2 rfl ?_
  refine r_aload_n C (pc := 626) dL_law_626 rfl 0 rfl ?_
  refine r_iload_n C (pc := 627) dL_law_627 rfl 3 rfl ?_
  refine r_iconst C (pc := 628) dL_law_628 ?_
  refine r_iadd C (pc := 629) dL_law_629 ?_
  refine r_sld C LW (pc := 630) dL_law_630 h1 ?_
  refine r_aload_n C (pc := 631) dL_law_631 rfl 0 rfl ?_
  refine r_iload_n C (pc := 632) dL_law_632 rfl 3 rfl ?_
  refine r_iconst C (pc := 633) dL_law_633 ?_
  refine r_iadd C (pc := 634) dL_law_634 ?_
  refine r_sld C LW (pc := 635) dL_law_635 h2 ?_
  refine b_cVi C (pc := 636) dL_law_636 (c_X9_corner (xl g) (xG g) q F (B 1) (B 24) (B 25) (B 26) (sc (ix (i + 1))) (sc (ix (i + 2))) r o0' o1' o2' o3' eM) rfl gl_X9_corner ⟨rfl, rfl⟩ 2 hd_X9_corner ⟨(Nat.le_of_ble_eq_true rfl), (Nat.le_of_ble_eq_true rfl)⟩ rfl 49 rfl rfl rfl [49, 50, 68, 69, 70] rfl (srt_nd 0 rfl) (ws' := wLaw (xG g) qx rw q (up (up (up (up x 19 o0) 20 o1) 21 o2) 22 o3) (up (up (up X 16 o4) 17 o5) 18 o7) o6 it (up F 23 o0') (up (up (up B 24 o1') 25 o2') 26 o3') cl bt) (Put.m rfl rfl rfl) rfl (rest := [.int (jz r)]) rfl (Nat.le_of_ble_eq_true rfl) ⟨Nat.le_refl _, Nat.le_refl _⟩ ?_
  refine r_icmp_eqT C (pc := 639) 1360 dL_law_639 rfl ?_
  exact kk

-- tight
set_option maxRecDepth 100000 in
set_option maxHeartbeats 4000000 in
theorem law_16 {g : XC} (C : XOk g cL_law RL lw_tbl room_1 4) {b L : Nat} {sc : Nat → Int} (LW : LawOk g b L sc) (qx rw q : Nat → Nat) (x : Nat → Int) (X : Nat → Nat → Int) (kx : Nat → Int64) (it : Nat → Nat → Int64) (F : Nat → Int) (B : Nat → Nat → Int) (cl bt : Nat → Int64) (i : Int) (h1 : iin (i + 1) L = true) (h2 : iin (i + 2) L = true) (h3 : iin (i + 3) L = true) (h4 : iin (i + 4) L = true) (h5 : iin (i + 5) L = true) (r : Int) (o0 : Int) (o1 : Int) (o2 : Int) (o3 : Int) (o4 : Nat → Int) (o5 : Nat → Int) (o6 : Nat → Int64) (o7 : Nat → Int) (o0' : Int) (o1' : Nat → Int) (o2' : Nat → Int) (o3' : Nat → Int) (eX : f_X8_tight (sc (ix (i + 1))) (sc (ix (i + 2))) (sc (ix (i + 3))) (x 1) (X 0) (x 19) (x 20) (x 21) (x 22) (X 16) (X 17) kx (X 18) = some (r, o0, o1, o2, o3, o4, o5, o6, o7)) (eM : f_X9_tight (sc (ix (i + 1))) (sc (ix (i + 2))) (sc (ix (i + 3))) (F 0) (F 23) (B 1) (B 24) (B 25) (B 26) = some (r, o0', o1', o2', o3')) (kk : WW g 600000 7302250 (wLaw (xG g) qx rw q (up (up (up (up x 19 o0) 20 o1) 21 o2) 22 o3) (up (up (up X 16 o4) 17 o5) 18 o7) o6 it (up F 23 o0') (up (up (up B 24 o1') 25 o2') 26 o3') cl bt) 1360 [(0, .ref b), (1, .ref (qx 0)), (2, .ref (q 35)), (3, .int (jz i))] []) : WW g 600000 7302250 (wLaw (xG g) qx rw q x X kx it F B cl bt) 644 [(0, .ref b), (1, .ref (qx 0)), (2, .ref (q 35)), (3, .int (jz i))] [] := by
  refine r_aload_n C (pc := 644) dL_law_644 rfl 1 rfl ?_
  refine r_aload_n C (pc := 645) dL_law_645 rfl 0 rfl ?_
  refine r_iload_n C (pc := 646) dL_law_646 rfl 3 rfl ?_
  refine r_iconst C (pc := 647) dL_law_647 ?_
  refine r_iadd C (pc := 648) dL_law_648 ?_
  refine r_sld C LW (pc := 649) dL_law_649 h1 ?_
  refine r_aload_n C (pc := 650) dL_law_650 rfl 0 rfl ?_
  refine r_iload_n C (pc := 651) dL_law_651 rfl 3 rfl ?_
  refine r_iconst C (pc := 652) dL_law_652 ?_
  refine r_iadd C (pc := 653) dL_law_653 ?_
  refine r_sld C LW (pc := 654) dL_law_654 h2 ?_
  refine r_aload_n C (pc := 655) dL_law_655 rfl 0 rfl ?_
  refine r_iload_n C (pc := 656) dL_law_656 rfl 3 rfl ?_
  refine r_iconst C (pc := 657) dL_law_657 ?_
  refine r_iadd C (pc := 658) dL_law_658 ?_
  refine r_sld C LW (pc := 659) dL_law_659 h3 ?_
  refine b_cVi C (pc := 660) dL_law_660 (c_X8_tight (xl g) (xG g) (qx 0) (qx 1) (qx 12) (qx 23) (qx 25) (qx 30) (qx 36) (qx 39) (qx 2) (qx 4) (qx 5) (qx 6) (qx 8) (qx 10) (qx 3) (qx 31) (qx 33) (qx 34) (qx 35) (qx 32) (x 0) (x 1) (X 0) (x 19) (x 20) (x 21) (x 22) (X 16) (X 17) kx (X 18) (sc (ix (i + 1))) (sc (ix (i + 2))) (sc (ix (i + 3))) r o0 o1 o2 o3 o4 o5 o6 o7 eX) rfl gl_X8_tight ⟨rfl, rfl⟩ 3 hd_X8_tight ⟨(Nat.le_of_ble_eq_true rfl), (Nat.le_of_ble_eq_true rfl)⟩ rfl 0 rfl rfl rfl [0, 1, 2, 3, 30, 31, 32, 33, 34, 35] rfl (srt_nd 0 rfl) (ws' := wLaw (xG g) qx rw q (up (up (up (up x 19 o0) 20 o1) 21 o2) 22 o3) (up (up (up X 16 o4) 17 o5) 18 o7) o6 it F B cl bt) (Put.m rfl rfl rfl) rfl (rest := []) rfl (Nat.le_of_ble_eq_true rfl) ⟨Nat.le_refl _, Nat.le_refl _⟩ ?_
  refine r_aload_n C (pc := 663) dL_law_663 rfl 2 rfl ?_
  refine r_aload_n C (pc := 664) dL_law_664 rfl 0 rfl ?_
  refine r_iload_n C (pc := 665) dL_law_665 rfl 3 rfl ?_
  refine r_iconst C (pc := 666) dL_law_666 ?_
  refine r_iadd C (pc := 667) dL_law_667 ?_
  refine r_sld C LW (pc := 668) dL_law_668 h1 ?_
  refine r_aload_n C (pc := 669) dL_law_669 rfl 0 rfl ?_
  refine r_iload_n C (pc := 670) dL_law_670 rfl 3 rfl ?_
  refine r_iconst C (pc := 671) dL_law_671 ?_
  refine r_iadd C (pc := 672) dL_law_672 ?_
  refine r_sld C LW (pc := 673) dL_law_673 h2 ?_
  refine r_aload_n C (pc := 674) dL_law_674 rfl 0 rfl ?_
  refine r_iload_n C (pc := 675) dL_law_675 rfl 3 rfl ?_
  refine r_iconst C (pc := 676) dL_law_676 ?_
  refine r_iadd C (pc := 677) dL_law_677 ?_
  refine r_sld C LW (pc := 678) dL_law_678 h3 ?_
  refine b_cVi C (pc := 679) dL_law_679 (c_X9_tight (xl g) (xG g) q F (B 1) (B 24) (B 25) (B 26) (sc (ix (i + 1))) (sc (ix (i + 2))) (sc (ix (i + 3))) r o0' o1' o2' o3' eM) rfl gl_X9_tight ⟨rfl, rfl⟩ 3 hd_X9_tight ⟨(Nat.le_of_ble_eq_true rfl), (Nat.le_of_ble_eq_true rfl)⟩ rfl 49 rfl rfl rfl [49, 50, 68, 69, 70] rfl (srt_nd 0 rfl) (ws' := wLaw (xG g) qx rw q (up (up (up (up x 19 o0) 20 o1) 21 o2) 22 o3) (up (up (up X 16 o4) 17 o5) 18 o7) o6 it (up F 23 o0') (up (up (up B 24 o1') 25 o2') 26 o3') cl bt) (Put.m rfl rfl rfl) rfl (rest := [.int (jz r)]) rfl (Nat.le_of_ble_eq_true rfl) ⟨Nat.le_refl _, Nat.le_refl _⟩ ?_
  refine r_icmp_eqT C (pc := 682) 1360 dL_law_682 rfl ?_
  exact kk

-- two
set_option maxRecDepth 100000 in
set_option maxHeartbeats 4000000 in
theorem law_17 {g : XC} (C : XOk g cL_law RL lw_tbl room_1 4) {b L : Nat} {sc : Nat → Int} (LW : LawOk g b L sc) (qx rw q : Nat → Nat) (x : Nat → Int) (X : Nat → Nat → Int) (kx : Nat → Int64) (it : Nat → Nat → Int64) (F : Nat → Int) (B : Nat → Nat → Int) (cl bt : Nat → Int64) (i : Int) (h1 : iin (i + 1) L = true) (h2 : iin (i + 2) L = true) (h3 : iin (i + 3) L = true) (h4 : iin (i + 4) L = true) (h5 : iin (i + 5) L = true) (r : Int) (o0 : Int) (o1 : Int) (o2 : Int) (o3 : Int) (o4 : Nat → Int) (o5 : Nat → Int) (o6 : Nat → Int64) (o7 : Nat → Int) (o0' : Int) (o1' : Nat → Int) (o2' : Nat → Int) (o3' : Nat → Int) (eX : f_X8_two (sc (ix (i + 1))) (sc (ix (i + 2))) (sc (ix (i + 3))) (x 1) (X 0) (x 19) (x 20) (x 21) (x 22) (X 16) (X 17) kx (X 18) = some (r, o0, o1, o2, o3, o4, o5, o6, o7)) (eM : f_X9_two (sc (ix (i + 1))) (sc (ix (i + 2))) (sc (ix (i + 3))) (F 0) (F 23) (B 1) (B 24) (B 25) (B 26) = some (r, o0', o1', o2', o3')) (kk : WW g 600000 7302250 (wLaw (xG g) qx rw q (up (up (up (up x 19 o0) 20 o1) 21 o2) 22 o3) (up (up (up X 16 o4) 17 o5) 18 o7) o6 it (up F 23 o0') (up (up (up B 24 o1') 25 o2') 26 o3') cl bt) 1360 [(0, .ref b), (1, .ref (qx 0)), (2, .ref (q 35)), (3, .int (jz i))] []) : WW g 600000 7302250 (wLaw (xG g) qx rw q x X kx it F B cl bt) 687 [(0, .ref b), (1, .ref (qx 0)), (2, .ref (q 35)), (3, .int (jz i))] [] := by
  refine r_aload_n C (pc := 687) dL_law_687 rfl 1 rfl ?_
  refine r_aload_n C (pc := 688) dL_law_688 rfl 0 rfl ?_
  refine r_iload_n C (pc := 689) dL_law_689 rfl 3 rfl ?_
  refine r_iconst C (pc := 690) dL_law_690 ?_
  refine r_iadd C (pc := 691) dL_law_691 ?_
  refine r_sld C LW (pc := 692) dL_law_692 h1 ?_
  refine r_aload_n C (pc := 693) dL_law_693 rfl 0 rfl ?_
  refine r_iload_n C (pc := 694) dL_law_694 rfl 3 rfl ?_
  refine r_iconst C (pc := 695) dL_law_695 ?_
  refine r_iadd C (pc := 696) dL_law_696 ?_
  refine r_sld C LW (pc := 697) dL_law_697 h2 ?_
  refine r_aload_n C (pc := 698) dL_law_698 rfl 0 rfl ?_
  refine r_iload_n C (pc := 699) dL_law_699 rfl 3 rfl ?_
  refine r_iconst C (pc := 700) dL_law_700 ?_
  refine r_iadd C (pc := 701) dL_law_701 ?_
  refine r_sld C LW (pc := 702) dL_law_702 h3 ?_
  refine b_cVi C (pc := 703) dL_law_703 (c_X8_two (xl g) (xG g) (qx 0) (qx 1) (qx 12) (qx 23) (qx 25) (qx 30) (qx 36) (qx 39) (qx 2) (qx 4) (qx 5) (qx 6) (qx 8) (qx 10) (qx 3) (qx 31) (qx 33) (qx 34) (qx 35) (qx 32) (x 0) (x 1) (X 0) (x 19) (x 20) (x 21) (x 22) (X 16) (X 17) kx (X 18) (sc (ix (i + 1))) (sc (ix (i + 2))) (sc (ix (i + 3))) r o0 o1 o2 o3 o4 o5 o6 o7 eX) rfl gl_X8_two ⟨rfl, rfl⟩ 3 hd_X8_two ⟨(Nat.le_of_ble_eq_true rfl), (Nat.le_of_ble_eq_true rfl)⟩ rfl 0 rfl rfl rfl [0, 1, 2, 3, 30, 31, 32, 33, 34, 35] rfl (srt_nd 0 rfl) (ws' := wLaw (xG g) qx rw q (up (up (up (up x 19 o0) 20 o1) 21 o2) 22 o3) (up (up (up X 16 o4) 17 o5) 18 o7) o6 it F B cl bt) (Put.m rfl rfl rfl) rfl (rest := []) rfl (Nat.le_of_ble_eq_true rfl) ⟨Nat.le_refl _, Nat.le_refl _⟩ ?_
  refine r_aload_n C (pc := 706) dL_law_706 rfl 2 rfl ?_
  refine r_aload_n C (pc := 707) dL_law_707 rfl 0 rfl ?_
  refine r_iload_n C (pc := 708) dL_law_708 rfl 3 rfl ?_
  refine r_iconst C (pc := 709) dL_law_709 ?_
  refine r_iadd C (pc := 710) dL_law_710 ?_
  refine r_sld C LW (pc := 711) dL_law_711 h1 ?_
  refine r_aload_n C (pc := 712) dL_law_712 rfl 0 rfl ?_
  refine r_iload_n C (pc := 713) dL_law_713 rfl 3 rfl ?_
  refine r_iconst C (pc := 714) dL_law_714 ?_
  refine r_iadd C (pc := 715) dL_law_715 ?_
  refine r_sld C LW (pc := 716) dL_law_716 h2 ?_
  refine r_aload_n C (pc := 717) dL_law_717 rfl 0 rfl ?_
  refine r_iload_n C (pc := 718) dL_law_718 rfl 3 rfl ?_
  refine r_iconst C (pc := 719) dL_law_719 ?_
  refine r_iadd C (pc := 720) dL_law_720 ?_
  refine r_sld C LW (pc := 721) dL_law_721 h3 ?_
  refine b_cVi C (pc := 722) dL_law_722 (c_X9_two (xl g) (xG g) q F (B 1) (B 24) (B 25) (B 26) (sc (ix (i + 1))) (sc (ix (i + 2))) (sc (ix (i + 3))) r o0' o1' o2' o3' eM) rfl gl_X9_two ⟨rfl, rfl⟩ 3 hd_X9_two ⟨(Nat.le_of_ble_eq_true rfl), (Nat.le_of_ble_eq_true rfl)⟩ rfl 49 rfl rfl rfl [49, 50, 68, 69, 70] rfl (srt_nd 0 rfl) (ws' := wLaw (xG g) qx rw q (up (up (up (up x 19 o0) 20 o1) 21 o2) 22 o3) (up (up (up X 16 o4) 17 o5) 18 o7) o6 it (up F 23 o0') (up (up (up B 24 o1') 25 o2') 26 o3') cl bt) (Put.m rfl rfl rfl) rfl (rest := [.int (jz r)]) rfl (Nat.le_of_ble_eq_true rfl) ⟨Nat.le_refl _, Nat.le_refl _⟩ ?_
  refine r_icmp_eqT C (pc := 725) 1360 dL_law_725 rfl ?_
  exact kk

-- eye
set_option maxRecDepth 100000 in
set_option maxHeartbeats 4000000 in
theorem law_18 {g : XC} (C : XOk g cL_law RL lw_tbl room_1 4) {b L : Nat} {sc : Nat → Int} (LW : LawOk g b L sc) (qx rw q : Nat → Nat) (x : Nat → Int) (X : Nat → Nat → Int) (kx : Nat → Int64) (it : Nat → Nat → Int64) (F : Nat → Int) (B : Nat → Nat → Int) (cl bt : Nat → Int64) (i : Int) (h1 : iin (i + 1) L = true) (h2 : iin (i + 2) L = true) (h3 : iin (i + 3) L = true) (h4 : iin (i + 4) L = true) (h5 : iin (i + 5) L = true) (r : Int) (o0 : Int) (o1 : Int) (o2 : Int) (o3 : Int) (o4 : Nat → Int) (o5 : Nat → Int) (o6 : Nat → Int64) (o7 : Nat → Int) (o0' : Int) (o1' : Nat → Int) (o2' : Nat → Int) (o3' : Nat → Int) (eX : f_X8_eye (sc (ix (i + 1))) (x 1) (X 0) (x 19) (x 20) (x 21) (x 22) (X 16) (X 17) kx (X 18) = some (r, o0, o1, o2, o3, o4, o5, o6, o7)) (eM : f_X9_eye (sc (ix (i + 1))) (F 0) (F 23) (B 1) (B 24) (B 25) (B 26) = some (r, o0', o1', o2', o3')) (kk : WW g 600000 7302250 (wLaw (xG g) qx rw q (up (up (up (up x 19 o0) 20 o1) 21 o2) 22 o3) (up (up (up X 16 o4) 17 o5) 18 o7) o6 it (up F 23 o0') (up (up (up B 24 o1') 25 o2') 26 o3') cl bt) 1360 [(0, .ref b), (1, .ref (qx 0)), (2, .ref (q 35)), (3, .int (jz i))] []) : WW g 600000 7302250 (wLaw (xG g) qx rw q x X kx it F B cl bt) 730 [(0, .ref b), (1, .ref (qx 0)), (2, .ref (q 35)), (3, .int (jz i))] [] := by
  refine r_aload_n C (pc := 730) dL_law_730 rfl 1 rfl ?_
  refine r_aload_n C (pc := 731) dL_law_731 rfl 0 rfl ?_
  refine r_iload_n C (pc := 732) dL_law_732 rfl 3 rfl ?_
  refine r_iconst C (pc := 733) dL_law_733 ?_
  refine r_iadd C (pc := 734) dL_law_734 ?_
  refine r_sld C LW (pc := 735) dL_law_735 h1 ?_
  refine b_cVi C (pc := 736) dL_law_736 (c_X8_eye (xl g) (xG g) (qx 0) (qx 1) (qx 12) (qx 23) (qx 25) (qx 30) (qx 36) (qx 39) (qx 2) (qx 4) (qx 5) (qx 6) (qx 8) (qx 10) (qx 3) (qx 31) (qx 33) (qx 34) (qx 35) (qx 32) (x 0) (x 1) (X 0) (x 19) (x 20) (x 21) (x 22) (X 16) (X 17) kx (X 18) (sc (ix (i + 1))) r o0 o1 o2 o3 o4 o5 o6 o7 eX) rfl gl_X8_eye ⟨rfl, rfl⟩ 1 hd_X8_eye ⟨(Nat.le_of_ble_eq_true rfl), (Nat.le_of_ble_eq_true rfl)⟩ rfl 0 rfl rfl rfl [0, 1, 2, 3, 30, 31, 32, 33, 34, 35] rfl (srt_nd 0 rfl) (ws' := wLaw (xG g) qx rw q (up (up (up (up x 19 o0) 20 o1) 21 o2) 22 o3) (up (up (up X 16 o4) 17 o5) 18 o7) o6 it F B cl bt) (Put.m rfl rfl rfl) rfl (rest := []) rfl (Nat.le_of_ble_eq_true rfl) ⟨Nat.le_refl _, Nat.le_refl _⟩ ?_
  refine r_aload_n C (pc := 739) dL_law_739 rfl 2 rfl ?_
  refine r_aload_n C (pc := 740) dL_law_740 rfl 0 rfl ?_
  refine r_iload_n C (pc := 741) dL_law_741 rfl 3 rfl ?_
  refine r_iconst C (pc := 742) dL_law_742 ?_
  refine r_iadd C (pc := 743) dL_law_743 ?_
  refine r_sld C LW (pc := 744) dL_law_744 h1 ?_
  refine b_cVi C (pc := 745) dL_law_745 (c_X9_eye (xl g) (xG g) q F (B 1) (B 24) (B 25) (B 26) (sc (ix (i + 1))) r o0' o1' o2' o3' eM) rfl gl_X9_eye ⟨rfl, rfl⟩ 1 hd_X9_eye ⟨(Nat.le_of_ble_eq_true rfl), (Nat.le_of_ble_eq_true rfl)⟩ rfl 49 rfl rfl rfl [49, 50, 68, 69, 70] rfl (srt_nd 0 rfl) (ws' := wLaw (xG g) qx rw q (up (up (up (up x 19 o0) 20 o1) 21 o2) 22 o3) (up (up (up X 16 o4) 17 o5) 18 o7) o6 it (up F 23 o0') (up (up (up B 24 o1') 25 o2') 26 o3') cl bt) (Put.m rfl rfl rfl) rfl (rest := [.int (jz r)]) rfl (Nat.le_of_ble_eq_true rfl) ⟨Nat.le_refl _, Nat.le_refl _⟩ ?_
  refine r_icmp_eqT C (pc := 748) 1360 dL_law_748 rfl ?_
  exact kk

-- weight
set_option maxRecDepth 100000 in
set_option maxHeartbeats 4000000 in
theorem law_19 {g : XC} (C : XOk g cL_law RL lw_tbl room_1 4) {b L : Nat} {sc : Nat → Int} (LW : LawOk g b L sc) (qx rw q : Nat → Nat) (x : Nat → Int) (X : Nat → Nat → Int) (kx : Nat → Int64) (it : Nat → Nat → Int64) (F : Nat → Int) (B : Nat → Nat → Int) (cl bt : Nat → Int64) (i : Int) (h1 : iin (i + 1) L = true) (h2 : iin (i + 2) L = true) (h3 : iin (i + 3) L = true) (h4 : iin (i + 4) L = true) (h5 : iin (i + 5) L = true) (r : Int) (eX : f_X8_weight (sc (ix (i + 1))) (x 1) (X 0) = some r) (eM : f_X9_weight (sc (ix (i + 1))) (F 0) (B 1) = some r) (kk : WW g 600000 7302250 (wLaw (xG g) qx rw q x X kx it F B cl bt) 1360 [(0, .ref b), (1, .ref (qx 0)), (2, .ref (q 35)), (3, .int (jz i))] []) : WW g 600000 7302250 (wLaw (xG g) qx rw q x X kx it F B cl bt) 753 [(0, .ref b), (1, .ref (qx 0)), (2, .ref (q 35)), (3, .int (jz i))] [] := by
  refine r_aload_n C (pc := 753) dL_law_753 rfl 1 rfl ?_
  refine r_aload_n C (pc := 754) dL_law_754 rfl 0 rfl ?_
  refine r_iload_n C (pc := 755) dL_law_755 rfl 3 rfl ?_
  refine r_iconst C (pc := 756) dL_law_756 ?_
  refine r_iadd C (pc := 757) dL_law_757 ?_
  refine r_sld C LW (pc := 758) dL_law_758 h1 ?_
  refine b_cVi C (pc := 759) dL_law_759 (c_X8_weight (xl g) (xG g) (qx 0) (qx 1) (qx 12) (qx 23) (qx 25) (qx 30) (qx 36) (qx 39) (qx 2) (qx 4) (qx 5) (qx 6) (qx 8) (qx 10) (qx 3) (x 0) (x 1) (X 0) (sc (ix (i + 1))) r eX) rfl gl_X8_weight ⟨rfl, rfl⟩ 1 hd_X8_weight ⟨(Nat.le_of_ble_eq_true rfl), (Nat.le_of_ble_eq_true rfl)⟩ rfl 0 rfl rfl rfl [0, 1, 2, 3] rfl (srt_nd 0 rfl) (ws' := wLaw (xG g) qx rw q x X kx it F B cl bt) (Put.m rfl rfl rfl) rfl (rest := []) rfl (Nat.le_of_ble_eq_true rfl) ⟨Nat.le_refl _, Nat.le_refl _⟩ ?_
  refine r_aload_n C (pc := 762) dL_law_762 rfl 2 rfl ?_
  refine r_aload_n C (pc := 763) dL_law_763 rfl 0 rfl ?_
  refine r_iload_n C (pc := 764) dL_law_764 rfl 3 rfl ?_
  refine r_iconst C (pc := 765) dL_law_765 ?_
  refine r_iadd C (pc := 766) dL_law_766 ?_
  refine r_sld C LW (pc := 767) dL_law_767 h1 ?_
  refine b_cVi C (pc := 768) dL_law_768 (c_X9_weight (xl g) (xG g) q F (B 1) (sc (ix (i + 1))) r eM) rfl gl_X9_weight ⟨rfl, rfl⟩ 1 hd_X9_weight ⟨(Nat.le_of_ble_eq_true rfl), (Nat.le_of_ble_eq_true rfl)⟩ rfl 49 rfl rfl rfl [49, 50] rfl (srt_nd 0 rfl) (ws' := wLaw (xG g) qx rw q x X kx it F B cl bt) (Put.m rfl rfl rfl) rfl (rest := [.int (jz r)]) rfl (Nat.le_of_ble_eq_true rfl) ⟨Nat.le_refl _, Nat.le_refl _⟩ ?_
  refine r_icmp_eqT C (pc := 771) 1360 dL_law_771 rfl ?_
  exact kk

-- split
set_option maxRecDepth 100000 in
set_option maxHeartbeats 4000000 in
theorem law_20 {g : XC} (C : XOk g cL_law RL lw_tbl room_1 4) {b L : Nat} {sc : Nat → Int} (LW : LawOk g b L sc) (qx rw q : Nat → Nat) (x : Nat → Int) (X : Nat → Nat → Int) (kx : Nat → Int64) (it : Nat → Nat → Int64) (F : Nat → Int) (B : Nat → Nat → Int) (cl bt : Nat → Int64) (i : Int) (h1 : iin (i + 1) L = true) (h2 : iin (i + 2) L = true) (h3 : iin (i + 3) L = true) (h4 : iin (i + 4) L = true) (h5 : iin (i + 5) L = true) (r : Int) (o0 : Int) (o1 : Int) (o2 : Int) (o3 : Nat → Int) (o4 : Nat → Int) (o5 : Nat → Int) (eX : f_X8_split (sc (ix (i + 1))) (sc (ix (i + 2))) (x 1) (X 0) (x 16) (x 17) (x 18) (X 13) (X 14) (X 15) = some (r, o0, o1, o2, o3, o4, o5)) (eM : f_X9_split (sc (ix (i + 1))) (sc (ix (i + 2))) (F 0) (B 1) = some r) (kk : WW g 600000 7302250 (wLaw (xG g) qx rw q (up (up (up x 16 o0) 17 o1) 18 o2) (up (up (up X 13 o3) 14 o4) 15 o5) kx it F B cl bt) 1360 [(0, .ref b), (1, .ref (qx 0)), (2, .ref (q 35)), (3, .int (jz i))] []) : WW g 600000 7302250 (wLaw (xG g) qx rw q x X kx it F B cl bt) 776 [(0, .ref b), (1, .ref (qx 0)), (2, .ref (q 35)), (3, .int (jz i))] [] := by
  refine r_aload_n C (pc := 776) dL_law_776 rfl 1 rfl ?_
  refine r_aload_n C (pc := 777) dL_law_777 rfl 0 rfl ?_
  refine r_iload_n C (pc := 778) dL_law_778 rfl 3 rfl ?_
  refine r_iconst C (pc := 779) dL_law_779 ?_
  refine r_iadd C (pc := 780) dL_law_780 ?_
  refine r_sld C LW (pc := 781) dL_law_781 h1 ?_
  refine r_aload_n C (pc := 782) dL_law_782 rfl 0 rfl ?_
  refine r_iload_n C (pc := 783) dL_law_783 rfl 3 rfl ?_
  refine r_iconst C (pc := 784) dL_law_784 ?_
  refine r_iadd C (pc := 785) dL_law_785 ?_
  refine r_sld C LW (pc := 786) dL_law_786 h2 ?_
  refine b_cVi C (pc := 787) dL_law_787 (c_X8_split (xl g) (xG g) (qx 0) (qx 1) (qx 12) (qx 23) (qx 25) (qx 30) (qx 36) (qx 39) (qx 2) (qx 4) (qx 5) (qx 6) (qx 8) (qx 10) (qx 3) (qx 26) (qx 28) (qx 29) (qx 27) (x 0) (x 1) (X 0) (x 16) (x 17) (x 18) (X 13) (X 14) (X 15) (sc (ix (i + 1))) (sc (ix (i + 2))) r o0 o1 o2 o3 o4 o5 eX) rfl gl_X8_split ⟨rfl, rfl⟩ 2 hd_X8_split ⟨(Nat.le_of_ble_eq_true rfl), (Nat.le_of_ble_eq_true rfl)⟩ rfl 0 rfl rfl rfl [0, 1, 2, 3, 25, 26, 27, 28, 29] rfl (srt_nd 0 rfl) (ws' := wLaw (xG g) qx rw q (up (up (up x 16 o0) 17 o1) 18 o2) (up (up (up X 13 o3) 14 o4) 15 o5) kx it F B cl bt) (Put.m rfl rfl rfl) rfl (rest := []) rfl (Nat.le_of_ble_eq_true rfl) ⟨Nat.le_refl _, Nat.le_refl _⟩ ?_
  refine r_aload_n C (pc := 790) dL_law_790 rfl 2 rfl ?_
  refine r_aload_n C (pc := 791) dL_law_791 rfl 0 rfl ?_
  refine r_iload_n C (pc := 792) dL_law_792 rfl 3 rfl ?_
  refine r_iconst C (pc := 793) dL_law_793 ?_
  refine r_iadd C (pc := 794) dL_law_794 ?_
  refine r_sld C LW (pc := 795) dL_law_795 h1 ?_
  refine r_aload_n C (pc := 796) dL_law_796 rfl 0 rfl ?_
  refine r_iload_n C (pc := 797) dL_law_797 rfl 3 rfl ?_
  refine r_iconst C (pc := 798) dL_law_798 ?_
  refine r_iadd C (pc := 799) dL_law_799 ?_
  refine r_sld C LW (pc := 800) dL_law_800 h2 ?_
  refine b_cVi C (pc := 801) dL_law_801 (c_X9_split (xl g) (xG g) q F (B 1) (sc (ix (i + 1))) (sc (ix (i + 2))) r eM) rfl gl_X9_split ⟨rfl, rfl⟩ 2 hd_X9_split ⟨(Nat.le_of_ble_eq_true rfl), (Nat.le_of_ble_eq_true rfl)⟩ rfl 49 rfl rfl rfl [49, 50] rfl (srt_nd 0 rfl) (ws' := wLaw (xG g) qx rw q (up (up (up x 16 o0) 17 o1) 18 o2) (up (up (up X 13 o3) 14 o4) 15 o5) kx it F B cl bt) (Put.m rfl rfl rfl) rfl (rest := [.int (jz r)]) rfl (Nat.le_of_ble_eq_true rfl) ⟨Nat.le_refl _, Nat.le_refl _⟩ ?_
  refine r_icmp_eqT C (pc := 804) 1360 dL_law_804 rfl ?_
  exact kk

-- see
set_option maxRecDepth 100000 in
set_option maxHeartbeats 4000000 in
theorem law_21 {g : XC} (C : XOk g cL_law RL lw_tbl room_1 4) {b L : Nat} {sc : Nat → Int} (LW : LawOk g b L sc) (qx rw q : Nat → Nat) (x : Nat → Int) (X : Nat → Nat → Int) (kx : Nat → Int64) (it : Nat → Nat → Int64) (F : Nat → Int) (B : Nat → Nat → Int) (cl bt : Nat → Int64) (i : Int) (h1 : iin (i + 1) L = true) (h2 : iin (i + 2) L = true) (h3 : iin (i + 3) L = true) (h4 : iin (i + 4) L = true) (h5 : iin (i + 5) L = true) (r : Int) (o0 : Int) (o1 : Nat → Int) (o0' : Int) (o1' : Nat → Int) (o2' : Nat → Int) (eX : f_X8_see (sc (ix (i + 1))) (sc (ix (i + 2))) (x 1) (x 2) (x 3) (X 3) = some (r, o0, o1)) (eM : f_X9_see (sc (ix (i + 1))) (sc (ix (i + 2))) (F 0) (F 4) (B 5) (B 6) = some (r, o0', o1', o2')) (kk : WW g 600000 7302250 (wLaw (xG g) qx rw q (up x 3 o0) (up X 3 o1) kx it (up F 4 o0') (up (up B 5 o1') 6 o2') cl bt) 1360 [(0, .ref b), (1, .ref (qx 0)), (2, .ref (q 35)), (3, .int (jz i))] []) : WW g 600000 7302250 (wLaw (xG g) qx rw q x X kx it F B cl bt) 809 [(0, .ref b), (1, .ref (qx 0)), (2, .ref (q 35)), (3, .int (jz i))] [] := by
  refine r_aload_n C (pc := 809) dL_law_809 rfl 1 rfl ?_
  refine r_aload_n C (pc := 810) dL_law_810 rfl 0 rfl ?_
  refine r_iload_n C (pc := 811) dL_law_811 rfl 3 rfl ?_
  refine r_iconst C (pc := 812) dL_law_812 ?_
  refine r_iadd C (pc := 813) dL_law_813 ?_
  refine r_sld C LW (pc := 814) dL_law_814 h1 ?_
  refine r_aload_n C (pc := 815) dL_law_815 rfl 0 rfl ?_
  refine r_iload_n C (pc := 816) dL_law_816 rfl 3 rfl ?_
  refine r_iconst C (pc := 817) dL_law_817 ?_
  refine r_iadd C (pc := 818) dL_law_818 ?_
  refine r_sld C LW (pc := 819) dL_law_819 h2 ?_
  refine b_cVi C (pc := 820) dL_law_820 (c_X8_see (xl g) (xG g) (qx 0) (qx 1) (qx 12) (qx 23) (qx 25) (qx 30) (qx 36) (qx 39) (qx 2) (qx 4) (qx 5) (qx 6) (qx 8) (qx 10) (qx 3) (qx 7) (x 0) (x 1) (x 2) (x 3) (X 3) (sc (ix (i + 1))) (sc (ix (i + 2))) r o0 o1 eX) rfl gl_X8_see ⟨rfl, rfl⟩ 2 hd_X8_see ⟨(Nat.le_of_ble_eq_true rfl), (Nat.le_of_ble_eq_true rfl)⟩ rfl 0 rfl rfl rfl [0, 1, 2, 6, 7] rfl (srt_nd 0 rfl) (ws' := wLaw (xG g) qx rw q (up x 3 o0) (up X 3 o1) kx it F B cl bt) (Put.m rfl rfl rfl) rfl (rest := []) rfl (Nat.le_of_ble_eq_true rfl) ⟨Nat.le_refl _, Nat.le_refl _⟩ ?_
  refine r_aload_n C (pc := 823) dL_law_823 rfl 2 rfl ?_
  refine r_aload_n C (pc := 824) dL_law_824 rfl 0 rfl ?_
  refine r_iload_n C (pc := 825) dL_law_825 rfl 3 rfl ?_
  refine r_iconst C (pc := 826) dL_law_826 ?_
  refine r_iadd C (pc := 827) dL_law_827 ?_
  refine r_sld C LW (pc := 828) dL_law_828 h1 ?_
  refine r_aload_n C (pc := 829) dL_law_829 rfl 0 rfl ?_
  refine r_iload_n C (pc := 830) dL_law_830 rfl 3 rfl ?_
  refine r_iconst C (pc := 831) dL_law_831 ?_
  refine r_iadd C (pc := 832) dL_law_832 ?_
  refine r_sld C LW (pc := 833) dL_law_833 h2 ?_
  refine b_cVi C (pc := 834) dL_law_834 (c_X9_see (xl g) (xG g) q F (B 5) (B 6) (sc (ix (i + 1))) (sc (ix (i + 2))) r o0' o1' o2' eM) rfl gl_X9_see ⟨rfl, rfl⟩ 2 hd_X9_see ⟨(Nat.le_of_ble_eq_true rfl), (Nat.le_of_ble_eq_true rfl)⟩ rfl 49 rfl rfl rfl [49, 53, 54] rfl (srt_nd 0 rfl) (ws' := wLaw (xG g) qx rw q (up x 3 o0) (up X 3 o1) kx it (up F 4 o0') (up (up B 5 o1') 6 o2') cl bt) (Put.m rfl rfl rfl) rfl (rest := [.int (jz r)]) rfl (Nat.le_of_ble_eq_true rfl) ⟨Nat.le_refl _, Nat.le_refl _⟩ ?_
  refine r_icmp_eqT C (pc := 837) 1360 dL_law_837 rfl ?_
  exact kk

-- fits
set_option maxRecDepth 100000 in
set_option maxHeartbeats 4000000 in
theorem law_22 {g : XC} (C : XOk g cL_law RL lw_tbl room_1 4) {b L : Nat} {sc : Nat → Int} (LW : LawOk g b L sc) (qx rw q : Nat → Nat) (x : Nat → Int) (X : Nat → Nat → Int) (kx : Nat → Int64) (it : Nat → Nat → Int64) (F : Nat → Int) (B : Nat → Nat → Int) (cl bt : Nat → Int64) (i : Int) (h1 : iin (i + 1) L = true) (h2 : iin (i + 2) L = true) (h3 : iin (i + 3) L = true) (h4 : iin (i + 4) L = true) (h5 : iin (i + 5) L = true) (r : Int) (o0 : Int) (o1 : Nat → Int) (o0' : Nat → Int) (eX : f_X8_fits (sc (ix (i + 1))) (sc (ix (i + 2))) (sc (ix (i + 3))) (x 1) (X 0) (x 3) (X 3) (x 15) (X 12) = some (r, o0, o1)) (eM : f_X9_fits (sc (ix (i + 1))) (sc (ix (i + 2))) (sc (ix (i + 3))) (F 0) (F 4) (B 1) (B 5) (B 6) = some (r, o0')) (kk : WW g 600000 7302250 (wLaw (xG g) qx rw q (up x 15 o0) (up X 12 o1) kx it F (up B 1 o0') cl bt) 1360 [(0, .ref b), (1, .ref (qx 0)), (2, .ref (q 35)), (3, .int (jz i))] []) : WW g 600000 7302250 (wLaw (xG g) qx rw q x X kx it F B cl bt) 842 [(0, .ref b), (1, .ref (qx 0)), (2, .ref (q 35)), (3, .int (jz i))] [] := by
  refine r_aload_n C (pc := 842) dL_law_842 rfl 1 rfl ?_
  refine r_aload_n C (pc := 843) dL_law_843 rfl 0 rfl ?_
  refine r_iload_n C (pc := 844) dL_law_844 rfl 3 rfl ?_
  refine r_iconst C (pc := 845) dL_law_845 ?_
  refine r_iadd C (pc := 846) dL_law_846 ?_
  refine r_sld C LW (pc := 847) dL_law_847 h1 ?_
  refine r_aload_n C (pc := 848) dL_law_848 rfl 0 rfl ?_
  refine r_iload_n C (pc := 849) dL_law_849 rfl 3 rfl ?_
  refine r_iconst C (pc := 850) dL_law_850 ?_
  refine r_iadd C (pc := 851) dL_law_851 ?_
  refine r_sld C LW (pc := 852) dL_law_852 h2 ?_
  refine r_aload_n C (pc := 853) dL_law_853 rfl 0 rfl ?_
  refine r_iload_n C (pc := 854) dL_law_854 rfl 3 rfl ?_
  refine r_iconst C (pc := 855) dL_law_855 ?_
  refine r_iadd C (pc := 856) dL_law_856 ?_
  refine r_sld C LW (pc := 857) dL_law_857 h3 ?_
  refine b_cVi C (pc := 858) dL_law_858 (c_X8_fits (xl g) (xG g) (qx 0) (qx 1) (qx 12) (qx 23) (qx 25) (qx 30) (qx 36) (qx 39) (qx 2) (qx 4) (qx 5) (qx 6) (qx 8) (qx 10) (qx 3) (qx 7) (qx 24) (x 0) (x 1) (X 0) (x 2) (x 3) (X 3) (x 15) (X 12) (sc (ix (i + 1))) (sc (ix (i + 2))) (sc (ix (i + 3))) r o0 o1 eX) rfl gl_X8_fits ⟨rfl, rfl⟩ 3 hd_X8_fits ⟨(Nat.le_of_ble_eq_true rfl), (Nat.le_of_ble_eq_true rfl)⟩ rfl 0 rfl rfl rfl [0, 1, 2, 3, 6, 7, 23, 24] rfl (srt_nd 0 rfl) (ws' := wLaw (xG g) qx rw q (up x 15 o0) (up X 12 o1) kx it F B cl bt) (Put.m rfl rfl rfl) rfl (rest := []) rfl (Nat.le_of_ble_eq_true rfl) ⟨Nat.le_refl _, Nat.le_refl _⟩ ?_
  refine r_aload_n C (pc := 861) dL_law_861 rfl 2 rfl ?_
  refine r_aload_n C (pc := 862) dL_law_862 rfl 0 rfl ?_
  refine r_iload_n C (pc := 863) dL_law_863 rfl 3 rfl ?_
  refine r_iconst C (pc := 864) dL_law_864 ?_
  refine r_iadd C (pc := 865) dL_law_865 ?_
  refine r_sld C LW (pc := 866) dL_law_866 h1 ?_
  refine r_aload_n C (pc := 867) dL_law_867 rfl 0 rfl ?_
  refine r_iload_n C (pc := 868) dL_law_868 rfl 3 rfl ?_
  refine r_iconst C (pc := 869) dL_law_869 ?_
  refine r_iadd C (pc := 870) dL_law_870 ?_
  refine r_sld C LW (pc := 871) dL_law_871 h2 ?_
  refine r_aload_n C (pc := 872) dL_law_872 rfl 0 rfl ?_
  refine r_iload_n C (pc := 873) dL_law_873 rfl 3 rfl ?_
  refine r_iconst C (pc := 874) dL_law_874 ?_
  refine r_iadd C (pc := 875) dL_law_875 ?_
  refine r_sld C LW (pc := 876) dL_law_876 h3 ?_
  refine b_cVi C (pc := 877) dL_law_877 (c_X9_fits (xl g) (xG g) q F (B 1) (B 5) (B 6) (sc (ix (i + 1))) (sc (ix (i + 2))) (sc (ix (i + 3))) r o0' eM) rfl gl_X9_fits ⟨rfl, rfl⟩ 3 hd_X9_fits ⟨(Nat.le_of_ble_eq_true rfl), (Nat.le_of_ble_eq_true rfl)⟩ rfl 49 rfl rfl rfl [49, 50, 53, 54] rfl (srt_nd 0 rfl) (ws' := wLaw (xG g) qx rw q (up x 15 o0) (up X 12 o1) kx it F (up B 1 o0') cl bt) (Put.m rfl rfl rfl) rfl (rest := [.int (jz r)]) rfl (Nat.le_of_ble_eq_true rfl) ⟨Nat.le_refl _, Nat.le_refl _⟩ ?_
  refine r_icmp_eqT C (pc := 880) 1360 dL_law_880 rfl ?_
  exact kk

-- odds
set_option maxRecDepth 100000 in
set_option maxHeartbeats 4000000 in
theorem law_23 {g : XC} (C : XOk g cL_law RL lw_tbl room_1 4) {b L : Nat} {sc : Nat → Int} (LW : LawOk g b L sc) (qx rw q : Nat → Nat) (x : Nat → Int) (X : Nat → Nat → Int) (kx : Nat → Int64) (it : Nat → Nat → Int64) (F : Nat → Int) (B : Nat → Nat → Int) (cl bt : Nat → Int64) (i : Int) (h1 : iin (i + 1) L = true) (h2 : iin (i + 2) L = true) (h3 : iin (i + 3) L = true) (h4 : iin (i + 4) L = true) (h5 : iin (i + 5) L = true) (r : Int64) (o0 : Int) (o1 : Int) (o2 : Int) (o3 : Nat → Int) (o4 : Nat → Int) (o5 : Nat → Int) (eX : f_X8_odds (sc (ix (i + 1))) (sc (ix (i + 2))) (sc (ix (i + 3))) (x 1) (X 0) (x 16) (x 17) (x 18) (X 13) (X 14) (X 15) = some (r, o0, o1, o2, o3, o4, o5)) (eM : f_X9_odds (sc (ix (i + 1))) (sc (ix (i + 2))) (sc (ix (i + 3))) (F 0) (B 1) = some r) (kk : WW g 600000 7302250 (wLaw (xG g) qx rw q (up (up (up x 16 o0) 17 o1) 18 o2) (up (up (up X 13 o3) 14 o4) 15 o5) kx it F B cl bt) 1360 [(0, .ref b), (1, .ref (qx 0)), (2, .ref (q 35)), (3, .int (jz i))] []) : WW g 600000 7302250 (wLaw (xG g) qx rw q x X kx it F B cl bt) 885 [(0, .ref b), (1, .ref (qx 0)), (2, .ref (q 35)), (3, .int (jz i))] [] := by
  refine r_aload_n C (pc := 885) dL_law_885 rfl 1 rfl ?_
  refine r_aload_n C (pc := 886) dL_law_886 rfl 0 rfl ?_
  refine r_iload_n C (pc := 887) dL_law_887 rfl 3 rfl ?_
  refine r_iconst C (pc := 888) dL_law_888 ?_
  refine r_iadd C (pc := 889) dL_law_889 ?_
  refine r_sld C LW (pc := 890) dL_law_890 h1 ?_
  refine r_aload_n C (pc := 891) dL_law_891 rfl 0 rfl ?_
  refine r_iload_n C (pc := 892) dL_law_892 rfl 3 rfl ?_
  refine r_iconst C (pc := 893) dL_law_893 ?_
  refine r_iadd C (pc := 894) dL_law_894 ?_
  refine r_sld C LW (pc := 895) dL_law_895 h2 ?_
  refine r_aload_n C (pc := 896) dL_law_896 rfl 0 rfl ?_
  refine r_iload_n C (pc := 897) dL_law_897 rfl 3 rfl ?_
  refine r_iconst C (pc := 898) dL_law_898 ?_
  refine r_iadd C (pc := 899) dL_law_899 ?_
  refine r_sld C LW (pc := 900) dL_law_900 h3 ?_
  refine b_cVl C (pc := 901) dL_law_901 (c_X8_odds (xl g) (xG g) (qx 0) (qx 1) (qx 12) (qx 23) (qx 25) (qx 30) (qx 36) (qx 39) (qx 2) (qx 4) (qx 5) (qx 6) (qx 8) (qx 10) (qx 3) (qx 26) (qx 28) (qx 29) (qx 27) (x 0) (x 1) (X 0) (x 16) (x 17) (x 18) (X 13) (X 14) (X 15) (sc (ix (i + 1))) (sc (ix (i + 2))) (sc (ix (i + 3))) r o0 o1 o2 o3 o4 o5 eX) rfl gl_X8_odds ⟨rfl, rfl⟩ 3 hd_X8_odds ⟨(Nat.le_of_ble_eq_true rfl), (Nat.le_of_ble_eq_true rfl)⟩ rfl 0 rfl rfl rfl [0, 1, 2, 3, 25, 26, 27, 28, 29] rfl (srt_nd 0 rfl) (ws' := wLaw (xG g) qx rw q (up (up (up x 16 o0) 17 o1) 18 o2) (up (up (up X 13 o3) 14 o4) 15 o5) kx it F B cl bt) (Put.m rfl rfl rfl) rfl (rest := []) rfl (Nat.le_of_ble_eq_true rfl) ⟨Nat.le_refl _, Nat.le_refl _⟩ ?_
  refine r_aload_n C (pc := 904) dL_law_904 rfl 2 rfl ?_
  refine r_aload_n C (pc := 905) dL_law_905 rfl 0 rfl ?_
  refine r_iload_n C (pc := 906) dL_law_906 rfl 3 rfl ?_
  refine r_iconst C (pc := 907) dL_law_907 ?_
  refine r_iadd C (pc := 908) dL_law_908 ?_
  refine r_sld C LW (pc := 909) dL_law_909 h1 ?_
  refine r_aload_n C (pc := 910) dL_law_910 rfl 0 rfl ?_
  refine r_iload_n C (pc := 911) dL_law_911 rfl 3 rfl ?_
  refine r_iconst C (pc := 912) dL_law_912 ?_
  refine r_iadd C (pc := 913) dL_law_913 ?_
  refine r_sld C LW (pc := 914) dL_law_914 h2 ?_
  refine r_aload_n C (pc := 915) dL_law_915 rfl 0 rfl ?_
  refine r_iload_n C (pc := 916) dL_law_916 rfl 3 rfl ?_
  refine r_iconst C (pc := 917) dL_law_917 ?_
  refine r_iadd C (pc := 918) dL_law_918 ?_
  refine r_sld C LW (pc := 919) dL_law_919 h3 ?_
  refine b_cVl C (pc := 920) dL_law_920 (c_X9_odds (xl g) (xG g) q F (B 1) (sc (ix (i + 1))) (sc (ix (i + 2))) (sc (ix (i + 3))) r eM) rfl gl_X9_odds ⟨rfl, rfl⟩ 3 hd_X9_odds ⟨(Nat.le_of_ble_eq_true rfl), (Nat.le_of_ble_eq_true rfl)⟩ rfl 49 rfl rfl rfl [49, 50] rfl (srt_nd 0 rfl) (ws' := wLaw (xG g) qx rw q (up (up (up x 16 o0) 17 o1) 18 o2) (up (up (up X 13 o3) 14 o4) 15 o5) kx it F B cl bt) (Put.m rfl rfl rfl) rfl (rest := [.long r]) rfl (Nat.le_of_ble_eq_true rfl) ⟨Nat.le_refl _, Nat.le_refl _⟩ ?_
  refine r_lcmp C (pc := 923) dL_law_923 ?_
  refine r_if_lcT C (pc := 924) 1360 dL_law_924 rfl ?_
  exact kk

-- mean
set_option maxRecDepth 100000 in
set_option maxHeartbeats 4000000 in
theorem law_24 {g : XC} (C : XOk g cL_law RL lw_tbl room_1 4) {b L : Nat} {sc : Nat → Int} (LW : LawOk g b L sc) (qx rw q : Nat → Nat) (x : Nat → Int) (X : Nat → Nat → Int) (kx : Nat → Int64) (it : Nat → Nat → Int64) (F : Nat → Int) (B : Nat → Nat → Int) (cl bt : Nat → Int64) (i : Int) (h1 : iin (i + 1) L = true) (h2 : iin (i + 2) L = true) (h3 : iin (i + 3) L = true) (h4 : iin (i + 4) L = true) (h5 : iin (i + 5) L = true) (r : Int64) (eX : f_X8_mean (sc (ix (i + 1))) (x 1) (X 0) = some r) (eM : f_X9_mean (sc (ix (i + 1))) (F 0) (B 1) = some r) (kk : WW g 600000 7302250 (wLaw (xG g) qx rw q x X kx it F B cl bt) 1360 [(0, .ref b), (1, .ref (qx 0)), (2, .ref (q 35)), (3, .int (jz i))] []) : WW g 600000 7302250 (wLaw (xG g) qx rw q x X kx it F B cl bt) 929 [(0, .ref b), (1, .ref (qx 0)), (2, .ref (q 35)), (3, .int (jz i))] [] := by
  refine r_aload_n C (pc := 929) dL_law_929 rfl 1 rfl ?_
  refine r_aload_n C (pc := 930) dL_law_930 rfl 0 rfl ?_
  refine r_iload_n C (pc := 931) dL_law_931 rfl 3 rfl ?_
  refine r_iconst C (pc := 932) dL_law_932 ?_
  refine r_iadd C (pc := 933) dL_law_933 ?_
  refine r_sld C LW (pc := 934) dL_law_934 h1 ?_
  refine b_cVl C (pc := 935) dL_law_935 (c_X8_mean (xl g) (xG g) (qx 0) (qx 1) (qx 12) (qx 23) (qx 25) (qx 30) (qx 36) (qx 39) (qx 2) (qx 4) (qx 5) (qx 6) (qx 8) (qx 10) (qx 3) (x 0) (x 1) (X 0) (sc (ix (i + 1))) r eX) rfl gl_X8_mean ⟨rfl, rfl⟩ 1 hd_X8_mean ⟨(Nat.le_of_ble_eq_true rfl), (Nat.le_of_ble_eq_true rfl)⟩ rfl 0 rfl rfl rfl [0, 1, 2, 3] rfl (srt_nd 0 rfl) (ws' := wLaw (xG g) qx rw q x X kx it F B cl bt) (Put.m rfl rfl rfl) rfl (rest := []) rfl (Nat.le_of_ble_eq_true rfl) ⟨Nat.le_refl _, Nat.le_refl _⟩ ?_
  refine r_aload_n C (pc := 938) dL_law_938 rfl 2 rfl ?_
  refine r_aload_n C (pc := 939) dL_law_939 rfl 0 rfl ?_
  refine r_iload_n C (pc := 940) dL_law_940 rfl 3 rfl ?_
  refine r_iconst C (pc := 941) dL_law_941 ?_
  refine r_iadd C (pc := 942) dL_law_942 ?_
  refine r_sld C LW (pc := 943) dL_law_943 h1 ?_
  refine b_cVl C (pc := 944) dL_law_944 (c_X9_mean (xl g) (xG g) q F (B 1) (sc (ix (i + 1))) r eM) rfl gl_X9_mean ⟨rfl, rfl⟩ 1 hd_X9_mean ⟨(Nat.le_of_ble_eq_true rfl), (Nat.le_of_ble_eq_true rfl)⟩ rfl 49 rfl rfl rfl [49, 50] rfl (srt_nd 0 rfl) (ws' := wLaw (xG g) qx rw q x X kx it F B cl bt) (Put.m rfl rfl rfl) rfl (rest := [.long r]) rfl (Nat.le_of_ble_eq_true rfl) ⟨Nat.le_refl _, Nat.le_refl _⟩ ?_
  refine r_lcmp C (pc := 947) dL_law_947 ?_
  refine r_if_lcT C (pc := 948) 1360 dL_law_948 rfl ?_
  exact kk

-- event
set_option maxRecDepth 100000 in
set_option maxHeartbeats 4000000 in
theorem law_25 {g : XC} (C : XOk g cL_law RL lw_tbl room_1 4) {b L : Nat} {sc : Nat → Int} (LW : LawOk g b L sc) (qx rw q : Nat → Nat) (x : Nat → Int) (X : Nat → Nat → Int) (kx : Nat → Int64) (it : Nat → Nat → Int64) (F : Nat → Int) (B : Nat → Nat → Int) (cl bt : Nat → Int64) (i : Int) (h1 : iin (i + 1) L = true) (h2 : iin (i + 2) L = true) (h3 : iin (i + 3) L = true) (h4 : iin (i + 4) L = true) (h5 : iin (i + 5) L = true) (r : Int) (o0 : Int) (o1 : Nat → Int) (o0' : Int) (o1' : Nat → Int) (o2' : Nat → Int) (eX : f_X8_event (sc (ix (i + 1))) (sc (ix (i + 2))) (x 1) (x 4) (x 5) (X 4) = some (r, o0, o1)) (eM : f_X9_event (sc (ix (i + 1))) (sc (ix (i + 2))) (F 0) (F 7) (B 8) (B 9) = some (r, o0', o1', o2')) (kk : WW g 600000 7302250 (wLaw (xG g) qx rw q (up x 5 o0) (up X 4 o1) kx it (up F 7 o0') (up (up B 8 o1') 9 o2') cl bt) 1360 [(0, .ref b), (1, .ref (qx 0)), (2, .ref (q 35)), (3, .int (jz i))] []) : WW g 600000 7302250 (wLaw (xG g) qx rw q x X kx it F B cl bt) 953 [(0, .ref b), (1, .ref (qx 0)), (2, .ref (q 35)), (3, .int (jz i))] [] := by
  refine r_aload_n C (pc := 953) dL_law_953 rfl 1 rfl ?_
  refine r_aload_n C (pc := 954) dL_law_954 rfl 0 rfl ?_
  refine r_iload_n C (pc := 955) dL_law_955 rfl 3 rfl ?_
  refine r_iconst C (pc := 956) dL_law_956 ?_
  refine r_iadd C (pc := 957) dL_law_957 ?_
  refine r_sld C LW (pc := 958) dL_law_958 h1 ?_
  refine r_aload_n C (pc := 959) dL_law_959 rfl 0 rfl ?_
  refine r_iload_n C (pc := 960) dL_law_960 rfl 3 rfl ?_
  refine r_iconst C (pc := 961) dL_law_961 ?_
  refine r_iadd C (pc := 962) dL_law_962 ?_
  refine r_sld C LW (pc := 963) dL_law_963 h2 ?_
  refine b_cVi C (pc := 964) dL_law_964 (c_X8_event (xl g) (xG g) (qx 0) (qx 1) (qx 12) (qx 23) (qx 25) (qx 30) (qx 36) (qx 39) (qx 2) (qx 4) (qx 5) (qx 6) (qx 8) (qx 10) (qx 3) (qx 9) (x 0) (x 1) (x 4) (x 5) (X 4) (sc (ix (i + 1))) (sc (ix (i + 2))) r o0 o1 eX) rfl gl_X8_event ⟨rfl, rfl⟩ 2 hd_X8_event ⟨(Nat.le_of_ble_eq_true rfl), (Nat.le_of_ble_eq_true rfl)⟩ rfl 0 rfl rfl rfl [0, 1, 2, 8, 9] rfl (srt_nd 0 rfl) (ws' := wLaw (xG g) qx rw q (up x 5 o0) (up X 4 o1) kx it F B cl bt) (Put.m rfl rfl rfl) rfl (rest := []) rfl (Nat.le_of_ble_eq_true rfl) ⟨Nat.le_refl _, Nat.le_refl _⟩ ?_
  refine r_aload_n C (pc := 967) dL_law_967 rfl 2 rfl ?_
  refine r_aload_n C (pc := 968) dL_law_968 rfl 0 rfl ?_
  refine r_iload_n C (pc := 969) dL_law_969 rfl 3 rfl ?_
  refine r_iconst C (pc := 970) dL_law_970 ?_
  refine r_iadd C (pc := 971) dL_law_971 ?_
  refine r_sld C LW (pc := 972) dL_law_972 h1 ?_
  refine r_aload_n C (pc := 973) dL_law_973 rfl 0 rfl ?_
  refine r_iload_n C (pc := 974) dL_law_974 rfl 3 rfl ?_
  refine r_iconst C (pc := 975) dL_law_975 ?_
  refine r_iadd C (pc := 976) dL_law_976 ?_
  refine r_sld C LW (pc := 977) dL_law_977 h2 ?_
  refine b_cVi C (pc := 978) dL_law_978 (c_X9_event (xl g) (xG g) q F (B 8) (B 9) (sc (ix (i + 1))) (sc (ix (i + 2))) r o0' o1' o2' eM) rfl gl_X9_event ⟨rfl, rfl⟩ 2 hd_X9_event ⟨(Nat.le_of_ble_eq_true rfl), (Nat.le_of_ble_eq_true rfl)⟩ rfl 49 rfl rfl rfl [49, 55, 56] rfl (srt_nd 0 rfl) (ws' := wLaw (xG g) qx rw q (up x 5 o0) (up X 4 o1) kx it (up F 7 o0') (up (up B 8 o1') 9 o2') cl bt) (Put.m rfl rfl rfl) rfl (rest := [.int (jz r)]) rfl (Nat.le_of_ble_eq_true rfl) ⟨Nat.le_refl _, Nat.le_refl _⟩ ?_
  refine r_icmp_eqT C (pc := 981) 1360 dL_law_981 rfl ?_
  exact kk

-- after
set_option maxRecDepth 100000 in
set_option maxHeartbeats 4000000 in
theorem law_26 {g : XC} (C : XOk g cL_law RL lw_tbl room_1 4) {b L : Nat} {sc : Nat → Int} (LW : LawOk g b L sc) (qx rw q : Nat → Nat) (x : Nat → Int) (X : Nat → Nat → Int) (kx : Nat → Int64) (it : Nat → Nat → Int64) (F : Nat → Int) (B : Nat → Nat → Int) (cl bt : Nat → Int64) (i : Int) (h1 : iin (i + 1) L = true) (h2 : iin (i + 2) L = true) (h3 : iin (i + 3) L = true) (h4 : iin (i + 4) L = true) (h5 : iin (i + 5) L = true) (r : Int) (o0 : Int) (o1 : Nat → Int) (o2 : Int) (o3 : Int) (o4 : Int) (o5 : Nat → Int) (o6 : Nat → Int) (o7 : Nat → Int) (o0' : Nat → Int) (o1' : Nat → Int) (o2' : Nat → Int) (eX : f_X8_after (sc (ix (i + 1))) (x 1) (X 0) (x 5) (X 4) (x 15) (X 12) (x 16) (x 17) (x 18) (X 13) (X 14) (X 15) = some (r, o0, o1, o2, o3, o4, o5, o6, o7)) (eM : f_X9_after (sc (ix (i + 1))) (F 0) (F 7) (B 1) (B 8) (B 9) (B 20) (B 21) = some (r, o0', o1', o2')) (kk : WW g 600000 7302250 (wLaw (xG g) qx rw q (up (up (up (up x 15 o0) 16 o2) 17 o3) 18 o4) (up (up (up (up X 12 o1) 13 o5) 14 o6) 15 o7) kx it F (up (up (up B 1 o0') 20 o1') 21 o2') cl bt) 1360 [(0, .ref b), (1, .ref (qx 0)), (2, .ref (q 35)), (3, .int (jz i))] []) : WW g 600000 7302250 (wLaw (xG g) qx rw q x X kx it F B cl bt) 986 [(0, .ref b), (1, .ref (qx 0)), (2, .ref (q 35)), (3, .int (jz i))] [] := by
  refine r_aload_n C (pc := 986) dL_law_986 rfl 1 rfl ?_
  refine r_aload_n C (pc := 987) dL_law_987 rfl 0 rfl ?_
  refine r_iload_n C (pc := 988) dL_law_988 rfl 3 rfl ?_
  refine r_iconst C (pc := 989) dL_law_989 ?_
  refine r_iadd C (pc := 990) dL_law_990 ?_
  refine r_sld C LW (pc := 991) dL_law_991 h1 ?_
  refine b_cVi C (pc := 992) dL_law_992 (c_X8_after (xl g) (xG g) (qx 0) (qx 1) (qx 12) (qx 23) (qx 25) (qx 30) (qx 36) (qx 39) (qx 2) (qx 4) (qx 5) (qx 6) (qx 8) (qx 10) (qx 3) (qx 9) (qx 24) (qx 26) (qx 28) (qx 29) (qx 27) (x 0) (x 1) (X 0) (x 4) (x 5) (X 4) (x 15) (X 12) (x 16) (x 17) (x 18) (X 13) (X 14) (X 15) (sc (ix (i + 1))) r o0 o1 o2 o3 o4 o5 o6 o7 eX) rfl gl_X8_after ⟨rfl, rfl⟩ 1 hd_X8_after ⟨(Nat.le_of_ble_eq_true rfl), (Nat.le_of_ble_eq_true rfl)⟩ rfl 0 rfl rfl rfl [0, 1, 2, 3, 8, 9, 23, 24, 25, 26, 27, 28, 29] rfl (srt_nd 0 rfl) (ws' := wLaw (xG g) qx rw q (up (up (up (up x 15 o0) 16 o2) 17 o3) 18 o4) (up (up (up (up X 12 o1) 13 o5) 14 o6) 15 o7) kx it F B cl bt) (Put.m rfl rfl rfl) rfl (rest := []) rfl (Nat.le_of_ble_eq_true rfl) ⟨Nat.le_refl _, Nat.le_refl _⟩ ?_
  refine r_aload_n C (pc := 995) dL_law_995 rfl 2 rfl ?_
  refine r_aload_n C (pc := 996) dL_law_996 rfl 0 rfl ?_
  refine r_iload_n C (pc := 997) dL_law_997 rfl 3 rfl ?_
  refine r_iconst C (pc := 998) dL_law_998 ?_
  refine r_iadd C (pc := 999) dL_law_999 ?_
  refine r_sld C LW (pc := 1000) dL_law_1000 h1 ?_
  refine b_cVi C (pc := 1001) dL_law_1001 (c_X9_after (xl g) (xG g) q F (B 1) (B 8) (B 9) (B 20) (B 21) (sc (ix (i + 1))) r o0' o1' o2' eM) rfl gl_X9_after ⟨rfl, rfl⟩ 1 hd_X9_after ⟨(Nat.le_of_ble_eq_true rfl), (Nat.le_of_ble_eq_true rfl)⟩ rfl 49 rfl rfl rfl [49, 50, 55, 56, 65, 66] rfl (srt_nd 0 rfl) (ws' := wLaw (xG g) qx rw q (up (up (up (up x 15 o0) 16 o2) 17 o3) 18 o4) (up (up (up (up X 12 o1) 13 o5) 14 o6) 15 o7) kx it F (up (up (up B 1 o0') 20 o1') 21 o2') cl bt) (Put.m rfl rfl rfl) rfl (rest := [.int (jz r)]) rfl (Nat.le_of_ble_eq_true rfl) ⟨Nat.le_refl _, Nat.le_refl _⟩ ?_
  refine r_icmp_eqT C (pc := 1004) 1360 dL_law_1004 rfl ?_
  exact kk

-- book
set_option maxRecDepth 100000 in
set_option maxHeartbeats 4000000 in
theorem law_27 {g : XC} (C : XOk g cL_law RL lw_tbl room_1 4) {b L : Nat} {sc : Nat → Int} (LW : LawOk g b L sc) (qx rw q : Nat → Nat) (x : Nat → Int) (X : Nat → Nat → Int) (kx : Nat → Int64) (it : Nat → Nat → Int64) (F : Nat → Int) (B : Nat → Nat → Int) (cl bt : Nat → Int64) (i : Int) (h1 : iin (i + 1) L = true) (h2 : iin (i + 2) L = true) (h3 : iin (i + 3) L = true) (h4 : iin (i + 4) L = true) (h5 : iin (i + 5) L = true) (r : Int) (o0 : Int) (o1 : Nat → Int) (o0' : Int) (o1' : Nat → Int) (o2' : Nat → Int) (o3' : Nat → Int) (eX : f_X8_book (sc (ix (i + 1))) (sc (ix (i + 2))) (sc (ix (i + 3))) (x 1) (x 6) (x 7) (X 5) = some (r, o0, o1)) (eM : f_X9_book (sc (ix (i + 1))) (sc (ix (i + 2))) (sc (ix (i + 3))) (F 0) (F 10) (B 11) (B 12) (B 13) = some (r, o0', o1', o2', o3')) (kk : WW g 600000 7302250 (wLaw (xG g) qx rw q (up x 7 o0) (up X 5 o1) kx it (up F 10 o0') (up (up (up B 11 o1') 12 o2') 13 o3') cl bt) 1360 [(0, .ref b), (1, .ref (qx 0)), (2, .ref (q 35)), (3, .int (jz i))] []) : WW g 600000 7302250 (wLaw (xG g) qx rw q x X kx it F B cl bt) 1009 [(0, .ref b), (1, .ref (qx 0)), (2, .ref (q 35)), (3, .int (jz i))] [] := by
  refine r_aload_n C (pc := 1009) dL_law_1009 rfl 1 rfl ?_
  refine r_aload_n C (pc := 1010) dL_law_1010 rfl 0 rfl ?_
  refine r_iload_n C (pc := 1011) dL_law_1011 rfl 3 rfl ?_
  refine r_iconst C (pc := 1012) dL_law_1012 ?_
  refine r_iadd C (pc := 1013) dL_law_1013 ?_
  refine r_sld C LW (pc := 1014) dL_law_1014 h1 ?_
  refine r_aload_n C (pc := 1015) dL_law_1015 rfl 0 rfl ?_
  refine r_iload_n C (pc := 1016) dL_law_1016 rfl 3 rfl ?_
  refine r_iconst C (pc := 1017) dL_law_1017 ?_
  refine r_iadd C (pc := 1018) dL_law_1018 ?_
  refine r_sld C LW (pc := 1019) dL_law_1019 h2 ?_
  refine r_aload_n C (pc := 1020) dL_law_1020 rfl 0 rfl ?_
  refine r_iload_n C (pc := 1021) dL_law_1021 rfl 3 rfl ?_
  refine r_iconst C (pc := 1022) dL_law_1022 ?_
  refine r_iadd C (pc := 1023) dL_law_1023 ?_
  refine r_sld C LW (pc := 1024) dL_law_1024 h3 ?_
  refine b_cVi C (pc := 1025) dL_law_1025 (c_X8_book (xl g) (xG g) (qx 0) (qx 1) (qx 12) (qx 23) (qx 25) (qx 30) (qx 36) (qx 39) (qx 2) (qx 4) (qx 5) (qx 6) (qx 8) (qx 10) (qx 3) (qx 11) (x 0) (x 1) (x 6) (x 7) (X 5) (sc (ix (i + 1))) (sc (ix (i + 2))) (sc (ix (i + 3))) r o0 o1 eX) rfl gl_X8_book ⟨rfl, rfl⟩ 3 hd_X8_book ⟨(Nat.le_of_ble_eq_true rfl), (Nat.le_of_ble_eq_true rfl)⟩ rfl 0 rfl rfl rfl [0, 1, 2, 10, 11] rfl (srt_nd 0 rfl) (ws' := wLaw (xG g) qx rw q (up x 7 o0) (up X 5 o1) kx it F B cl bt) (Put.m rfl rfl rfl) rfl (rest := []) rfl (Nat.le_of_ble_eq_true rfl) ⟨Nat.le_refl _, Nat.le_refl _⟩ ?_
  refine r_aload_n C (pc := 1028) dL_law_1028 rfl 2 rfl ?_
  refine r_aload_n C (pc := 1029) dL_law_1029 rfl 0 rfl ?_
  refine r_iload_n C (pc := 1030) dL_law_1030 rfl 3 rfl ?_
  refine r_iconst C (pc := 1031) dL_law_1031 ?_
  refine r_iadd C (pc := 1032) dL_law_1032 ?_
  refine r_sld C LW (pc := 1033) dL_law_1033 h1 ?_
  refine r_aload_n C (pc := 1034) dL_law_1034 rfl 0 rfl ?_
  refine r_iload_n C (pc := 1035) dL_law_1035 rfl 3 rfl ?_
  refine r_iconst C (pc := 1036) dL_law_1036 ?_
  refine r_iadd C (pc := 1037) dL_law_1037 ?_
  refine r_sld C LW (pc := 1038) dL_law_1038 h2 ?_
  refine r_aload_n C (pc := 1039) dL_law_1039 rfl 0 rfl ?_
  refine r_iload_n C (pc := 1040) dL_law_1040 rfl 3 rfl ?_
  refine r_iconst C (pc := 1041) dL_law_1041 ?_
  refine r_iadd C (pc := 1042) dL_law_1042 ?_
  refine r_sld C LW (pc := 1043) dL_law_1043 h3 ?_
  refine b_cVi C (pc := 1044) dL_law_1044 (c_X9_book (xl g) (xG g) q F (B 11) (B 12) (B 13) (sc (ix (i + 1))) (sc (ix (i + 2))) (sc (ix (i + 3))) r o0' o1' o2' o3' eM) rfl gl_X9_book ⟨rfl, rfl⟩ 3 hd_X9_book ⟨(Nat.le_of_ble_eq_true rfl), (Nat.le_of_ble_eq_true rfl)⟩ rfl 49 rfl rfl rfl [49, 57, 58, 59] rfl (srt_nd 0 rfl) (ws' := wLaw (xG g) qx rw q (up x 7 o0) (up X 5 o1) kx it (up F 10 o0') (up (up (up B 11 o1') 12 o2') 13 o3') cl bt) (Put.m rfl rfl rfl) rfl (rest := [.int (jz r)]) rfl (Nat.le_of_ble_eq_true rfl) ⟨Nat.le_refl _, Nat.le_refl _⟩ ?_
  refine r_icmp_eqT C (pc := 1047) 1360 dL_law_1047 rfl ?_
  exact kk

-- looked
set_option maxRecDepth 100000 in
set_option maxHeartbeats 4000000 in
theorem law_28 {g : XC} (C : XOk g cL_law RL lw_tbl room_1 4) {b L : Nat} {sc : Nat → Int} (LW : LawOk g b L sc) (qx rw q : Nat → Nat) (x : Nat → Int) (X : Nat → Nat → Int) (kx : Nat → Int64) (it : Nat → Nat → Int64) (F : Nat → Int) (B : Nat → Nat → Int) (cl bt : Nat → Int64) (i : Int) (h1 : iin (i + 1) L = true) (h2 : iin (i + 2) L = true) (h3 : iin (i + 3) L = true) (h4 : iin (i + 4) L = true) (h5 : iin (i + 5) L = true) (r : Int) (eX : f_X8_looked (x 1) (X 0) (x 7) (X 5) = some r) (eM : f_X9_looked (F 0) (F 10) (B 1) (B 11) (B 12) (B 13) = some r) (kk : WW g 600000 7302250 (wLaw (xG g) qx rw q x X kx it F B cl bt) 1360 [(0, .ref b), (1, .ref (qx 0)), (2, .ref (q 35)), (3, .int (jz i))] []) : WW g 600000 7302250 (wLaw (xG g) qx rw q x X kx it F B cl bt) 1052 [(0, .ref b), (1, .ref (qx 0)), (2, .ref (q 35)), (3, .int (jz i))] [] := by
  refine r_aload_n C (pc := 1052) dL_law_1052 rfl 1 rfl ?_
  refine b_cVi C (pc := 1053) dL_law_1053 (c_X8_looked (xl g) (xG g) (qx 0) (qx 1) (qx 12) (qx 23) (qx 25) (qx 30) (qx 36) (qx 39) (qx 2) (qx 4) (qx 5) (qx 6) (qx 8) (qx 10) (qx 3) (qx 11) (x 0) (x 1) (X 0) (x 6) (x 7) (X 5) r eX) rfl gl_X8_looked ⟨rfl, rfl⟩ 0 hd_X8_looked ⟨(Nat.le_of_ble_eq_true rfl), (Nat.le_of_ble_eq_true rfl)⟩ rfl 0 rfl rfl rfl [0, 1, 2, 3, 10, 11] rfl (srt_nd 0 rfl) (ws' := wLaw (xG g) qx rw q x X kx it F B cl bt) (Put.m rfl rfl rfl) rfl (rest := []) rfl (Nat.le_of_ble_eq_true rfl) ⟨Nat.le_refl _, Nat.le_refl _⟩ ?_
  refine r_aload_n C (pc := 1056) dL_law_1056 rfl 2 rfl ?_
  refine b_cVi C (pc := 1057) dL_law_1057 (c_X9_looked (xl g) (xG g) q F (B 1) (B 11) (B 12) (B 13) r eM) rfl gl_X9_looked ⟨rfl, rfl⟩ 0 hd_X9_looked ⟨(Nat.le_of_ble_eq_true rfl), (Nat.le_of_ble_eq_true rfl)⟩ rfl 49 rfl rfl rfl [49, 50, 57, 58, 59] rfl (srt_nd 0 rfl) (ws' := wLaw (xG g) qx rw q x X kx it F B cl bt) (Put.m rfl rfl rfl) rfl (rest := [.int (jz r)]) rfl (Nat.le_of_ble_eq_true rfl) ⟨Nat.le_refl _, Nat.le_refl _⟩ ?_
  refine r_icmp_eqT C (pc := 1060) 1360 dL_law_1060 rfl ?_
  exact kk

-- judge
set_option maxRecDepth 100000 in
set_option maxHeartbeats 4000000 in
theorem law_29 {g : XC} (C : XOk g cL_law RL lw_tbl room_1 4) {b L : Nat} {sc : Nat → Int} (LW : LawOk g b L sc) (qx rw q : Nat → Nat) (x : Nat → Int) (X : Nat → Nat → Int) (kx : Nat → Int64) (it : Nat → Nat → Int64) (F : Nat → Int) (B : Nat → Nat → Int) (cl bt : Nat → Int64) (i : Int) (h1 : iin (i + 1) L = true) (h2 : iin (i + 2) L = true) (h3 : iin (i + 3) L = true) (h4 : iin (i + 4) L = true) (h5 : iin (i + 5) L = true) (r : Int) (eX : f_X8_judge (sc (ix (i + 1))) (sc (ix (i + 2))) (x 1) (X 0) it (X 21) (X 22) = some r) (eM : f_X9_judge (sc (ix (i + 1))) (sc (ix (i + 2))) (F 0) (B 1) (B 16) (B 17) cl = some r) (kk : WW g 600000 7302250 (wLaw (xG g) qx rw q x X kx it F B cl bt) 1360 [(0, .ref b), (1, .ref (qx 0)), (2, .ref (q 35)), (3, .int (jz i))] []) : WW g 600000 7302250 (wLaw (xG g) qx rw q x X kx it F B cl bt) 1065 [(0, .ref b), (1, .ref (qx 0)), (2, .ref (q 35)), (3, .int (jz i))] [] := by
  refine r_aload_n C (pc := 1065) dL_law_1065 rfl 1 rfl ?_
  refine r_aload_n C (pc := 1066) dL_law_1066 rfl 0 rfl ?_
  refine r_iload_n C (pc := 1067) dL_law_1067 rfl 3 rfl ?_
  refine r_iconst C (pc := 1068) dL_law_1068 ?_
  refine r_iadd C (pc := 1069) dL_law_1069 ?_
  refine r_sld C LW (pc := 1070) dL_law_1070 h1 ?_
  refine r_aload_n C (pc := 1071) dL_law_1071 rfl 0 rfl ?_
  refine r_iload_n C (pc := 1072) dL_law_1072 rfl 3 rfl ?_
  refine r_iconst C (pc := 1073) dL_law_1073 ?_
  refine r_iadd C (pc := 1074) dL_law_1074 ?_
  refine r_sld C LW (pc := 1075) dL_law_1075 h2 ?_
  refine b_cVi C (pc := 1076) dL_law_1076 (c_X8_judge (xl g) (xG g) (qx 0) (qx 1) (qx 12) (qx 23) (qx 25) (qx 30) (qx 36) (qx 39) (qx 2) (qx 4) (qx 5) (qx 6) (qx 8) (qx 10) (qx 3) (qx 40) (qx 41) (qx 42) rw (x 0) (x 1) (X 0) it (X 21) (X 22) (sc (ix (i + 1))) (sc (ix (i + 2))) r eX) rfl gl_X8_judge ⟨rfl, rfl⟩ 2 hd_X8_judge ⟨(Nat.le_of_ble_eq_true rfl), (Nat.le_of_ble_eq_true rfl)⟩ rfl 0 rfl rfl rfl [0, 1, 2, 3, 39, 40, 41, 42, 43, 44, 45, 46, 47, 48] rfl (srt_nd 0 rfl) (ws' := wLaw (xG g) qx rw q x X kx it F B cl bt) (Put.m rfl rfl rfl) rfl (rest := []) rfl (Nat.le_of_ble_eq_true rfl) ⟨Nat.le_refl _, Nat.le_refl _⟩ ?_
  refine r_aload_n C (pc := 1079) dL_law_1079 rfl 2 rfl ?_
  refine r_aload_n C (pc := 1080) dL_law_1080 rfl 0 rfl ?_
  refine r_iload_n C (pc := 1081) dL_law_1081 rfl 3 rfl ?_
  refine r_iconst C (pc := 1082) dL_law_1082 ?_
  refine r_iadd C (pc := 1083) dL_law_1083 ?_
  refine r_sld C LW (pc := 1084) dL_law_1084 h1 ?_
  refine r_aload_n C (pc := 1085) dL_law_1085 rfl 0 rfl ?_
  refine r_iload_n C (pc := 1086) dL_law_1086 rfl 3 rfl ?_
  refine r_iconst C (pc := 1087) dL_law_1087 ?_
  refine r_iadd C (pc := 1088) dL_law_1088 ?_
  refine r_sld C LW (pc := 1089) dL_law_1089 h2 ?_
  refine b_cVi C (pc := 1090) dL_law_1090 (c_X9_judge (xl g) (xG g) q F (B 1) (B 16) (B 17) cl (sc (ix (i + 1))) (sc (ix (i + 2))) r eM) rfl gl_X9_judge ⟨rfl, rfl⟩ 2 hd_X9_judge ⟨(Nat.le_of_ble_eq_true rfl), (Nat.le_of_ble_eq_true rfl)⟩ rfl 49 rfl rfl rfl [49, 50, 61, 62, 63] rfl (srt_nd 0 rfl) (ws' := wLaw (xG g) qx rw q x X kx it F B cl bt) (Put.m rfl rfl rfl) rfl (rest := [.int (jz r)]) rfl (Nat.le_of_ble_eq_true rfl) ⟨Nat.le_refl _, Nat.le_refl _⟩ ?_
  refine r_icmp_eqT C (pc := 1093) 1360 dL_law_1093 rfl ?_
  exact kk

-- image
set_option maxRecDepth 100000 in
set_option maxHeartbeats 4000000 in
theorem law_30 {g : XC} (C : XOk g cL_law RL lw_tbl room_1 4) {b L : Nat} {sc : Nat → Int} (LW : LawOk g b L sc) (qx rw q : Nat → Nat) (x : Nat → Int) (X : Nat → Nat → Int) (kx : Nat → Int64) (it : Nat → Nat → Int64) (F : Nat → Int) (B : Nat → Nat → Int) (cl bt : Nat → Int64) (i : Int) (h1 : iin (i + 1) L = true) (h2 : iin (i + 2) L = true) (h3 : iin (i + 3) L = true) (h4 : iin (i + 4) L = true) (h5 : iin (i + 5) L = true) (r : Int) (o0 : Int) (o1 : Int) (o2 : Nat → Int) (o3 : Nat → Int) (o4 : Nat → Int) (o5 : Int) (o6 : Nat → Int) (o7 : Int) (o8 : Nat → Int) (o9 : Int) (o10 : Nat → Int) (o0' : Int) (o1' : Nat → Int) (eX : f_X8_image (x 0) (x 1) (X 0) (X 1) (X 2) (x 3) (X 3) (x 5) (X 4) (x 7) (X 5) (x 8) (X 6) (X 7) (X 8) (x 9) (x 10) (X 9) (x 11) (x 12) (X 10) (x 13) (x 14) (X 11) = some (r, o0, o1, o2, o3, o4, o5, o6, o7, o8, o9, o10)) (eM : f_X9_image (F 0) (F 4) (F 7) (F 10) (F 33) (B 1) (B 2) (B 3) (B 5) (B 6) (B 8) (B 9) (B 11) (B 12) (B 13) (B 34) = some (r, o0', o1')) (kk : WW g 600000 7302250 (wLaw (xG g) qx rw q (up (up (up (up (up x 0 o0) 8 o1) 10 o5) 12 o7) 14 o9) (up (up (up (up (up (up X 6 o2) 7 o3) 8 o4) 9 o6) 10 o8) 11 o10) kx it (up F 33 o0') (up B 34 o1') cl bt) 1360 [(0, .ref b), (1, .ref (qx 0)), (2, .ref (q 35)), (3, .int (jz i))] []) : WW g 600000 7302250 (wLaw (xG g) qx rw q x X kx it F B cl bt) 1098 [(0, .ref b), (1, .ref (qx 0)), (2, .ref (q 35)), (3, .int (jz i))] [] := by
  refine r_aload_n C (pc := 1098) dL_law_1098 rfl 1 rfl ?_
  refine b_cVi C (pc := 1099) dL_law_1099 (c_X8_image (xl g) (xG g) (qx 0) (qx 1) (qx 12) (qx 23) (qx 25) (qx 30) (qx 36) (qx 39) (qx 2) (qx 4) (qx 5) (qx 6) (qx 8) (qx 10) (qx 3) (qx 7) (qx 9) (qx 11) (qx 13) (qx 15) (qx 16) (qx 17) (qx 19) (qx 21) (qx 14) (qx 18) (qx 20) (qx 22) (x 0) (x 1) (X 0) (X 1) (X 2) (x 2) (x 3) (X 3) (x 4) (x 5) (X 4) (x 6) (x 7) (X 5) (x 8) (X 6) (X 7) (X 8) (x 9) (x 10) (X 9) (x 11) (x 12) (X 10) (x 13) (x 14) (X 11) r o0 o1 o2 o3 o4 o5 o6 o7 o8 o9 o10 eX) rfl gl_X8_image ⟨rfl, rfl⟩ 0 hd_X8_image ⟨(Nat.le_of_ble_eq_true rfl), (Nat.le_of_ble_eq_true rfl)⟩ rfl 0 rfl rfl rfl [0, 1, 2, 3, 4, 5, 6, 7, 8, 9, 10, 11, 12, 13, 14, 15, 16, 17, 18, 19, 20, 21, 22] rfl (srt_nd 0 rfl) (ws' := wLaw (xG g) qx rw q (up (up (up (up (up x 0 o0) 8 o1) 10 o5) 12 o7) 14 o9) (up (up (up (up (up (up X 6 o2) 7 o3) 8 o4) 9 o6) 10 o8) 11 o10) kx it F B cl bt) (Put.m rfl rfl rfl) rfl (rest := []) rfl (Nat.le_of_ble_eq_true rfl) ⟨Nat.le_refl _, Nat.le_refl _⟩ ?_
  refine r_aload_n C (pc := 1102) dL_law_1102 rfl 2 rfl ?_
  refine b_cVi C (pc := 1103) dL_law_1103 (c_X9_image (xl g) (xG g) q F (B 1) (B 2) (B 3) (B 5) (B 6) (B 8) (B 9) (B 11) (B 12) (B 13) (B 34) r o0' o1' eM) rfl gl_X9_image ⟨rfl, rfl⟩ 0 hd_X9_image ⟨(Nat.le_of_ble_eq_true rfl), (Nat.le_of_ble_eq_true rfl)⟩ rfl 49 rfl rfl rfl [49, 50, 51, 52, 53, 54, 55, 56, 57, 58, 59, 75] rfl (srt_nd 0 rfl) (ws' := wLaw (xG g) qx rw q (up (up (up (up (up x 0 o0) 8 o1) 10 o5) 12 o7) 14 o9) (up (up (up (up (up (up X 6 o2) 7 o3) 8 o4) 9 o6) 10 o8) 11 o10) kx it (up F 33 o0') (up B 34 o1') cl bt) (Put.m rfl rfl rfl) rfl (rest := [.int (jz r)]) rfl (Nat.le_of_ble_eq_true rfl) ⟨Nat.le_refl _, Nat.le_refl _⟩ ?_
  refine r_icmp_eqT C (pc := 1106) 1360 dL_law_1106 rfl ?_
  exact kk

-- undo
set_option maxRecDepth 100000 in
set_option maxHeartbeats 4000000 in
theorem law_31 {g : XC} (C : XOk g cL_law RL lw_tbl room_1 4) {b L : Nat} {sc : Nat → Int} (LW : LawOk g b L sc) (qx rw q : Nat → Nat) (x : Nat → Int) (X : Nat → Nat → Int) (kx : Nat → Int64) (it : Nat → Nat → Int64) (F : Nat → Int) (B : Nat → Nat → Int) (cl bt : Nat → Int64) (i : Int) (h1 : iin (i + 1) L = true) (h2 : iin (i + 2) L = true) (h3 : iin (i + 3) L = true) (h4 : iin (i + 4) L = true) (h5 : iin (i + 5) L = true) (r : Int) (o0 : Int) (o1 : Nat → Int) (o2 : Nat → Int) (o3 : Nat → Int) (o4 : Int) (o5 : Nat → Int) (o6 : Int) (o7 : Nat → Int) (o8 : Int) (o9 : Nat → Int) (o0' : Int) (o1' : Int) (o2' : Int) (o3' : Int) (o4' : Nat → Int) (o5' : Nat → Int) (o6' : Nat → Int) (o7' : Nat → Int) (o8' : Nat → Int) (o9' : Nat → Int) (o10' : Nat → Int) (o11' : Nat → Int) (o12' : Nat → Int) (o13' : Nat → Int) (eX : f_X8_undo (x 0) (x 1) (X 0) (X 1) (X 2) (x 2) (x 3) (X 3) (x 4) (x 5) (X 4) (x 6) (x 7) (X 5) (x 8) (X 6) (X 7) (X 8) (x 10) (X 9) (x 12) (X 10) (x 14) (X 11) = some (r, o0, o1, o2, o3, o4, o5, o6, o7, o8, o9)) (eM : f_X9_undo (F 0) (F 4) (F 7) (F 10) (F 33) (B 1) (B 2) (B 3) (B 5) (B 6) (B 8) (B 9) (B 11) (B 12) (B 13) (B 34) = some (r, o0', o1', o2', o3', o4', o5', o6', o7', o8', o9', o10', o11', o12', o13')) (kk : WW g 600000 7302250 (wLaw (xG g) qx rw q (up (up (up (up x 1 o0) 3 o4) 5 o6) 7 o8) (up (up (up (up (up (up X 0 o1) 1 o2) 2 o3) 3 o5) 4 o7) 5 o9) kx it (up (up (up (up F 0 o0') 4 o1') 7 o2') 10 o3') (up (up (up (up (up (up (up (up (up (up B 1 o4') 2 o5') 3 o6') 5 o7') 6 o8') 8 o9') 9 o10') 11 o11') 12 o12') 13 o13') cl bt) 1360 [(0, .ref b), (1, .ref (qx 0)), (2, .ref (q 35)), (3, .int (jz i))] []) : WW g 600000 7302250 (wLaw (xG g) qx rw q x X kx it F B cl bt) 1111 [(0, .ref b), (1, .ref (qx 0)), (2, .ref (q 35)), (3, .int (jz i))] [] := by
  refine r_aload_n C (pc := 1111) dL_law_1111 rfl 1 rfl ?_
  refine b_cVi C (pc := 1112) dL_law_1112 (c_X8_undo (xl g) (xG g) (qx 0) (qx 1) (qx 12) (qx 23) (qx 25) (qx 30) (qx 36) (qx 39) (qx 2) (qx 4) (qx 5) (qx 6) (qx 8) (qx 10) (qx 3) (qx 7) (qx 9) (qx 11) (qx 13) (qx 15) (qx 16) (qx 17) (qx 19) (qx 21) (qx 14) (qx 18) (qx 20) (qx 22) (x 0) (x 1) (X 0) (X 1) (X 2) (x 2) (x 3) (X 3) (x 4) (x 5) (X 4) (x 6) (x 7) (X 5) (x 8) (X 6) (X 7) (X 8) (x 9) (x 10) (X 9) (x 11) (x 12) (X 10) (x 13) (x 14) (X 11) r o0 o1 o2 o3 o4 o5 o6 o7 o8 o9 eX) rfl gl_X8_undo ⟨rfl, rfl⟩ 0 hd_X8_undo ⟨(Nat.le_of_ble_eq_true rfl), (Nat.le_of_ble_eq_true rfl)⟩ rfl 0 rfl rfl rfl [0, 1, 2, 3, 4, 5, 6, 7, 8, 9, 10, 11, 12, 13, 14, 15, 16, 17, 18, 19, 20, 21, 22] rfl (srt_nd 0 rfl) (ws' := wLaw (xG g) qx rw q (up (up (up (up x 1 o0) 3 o4) 5 o6) 7 o8) (up (up (up (up (up (up X 0 o1) 1 o2) 2 o3) 3 o5) 4 o7) 5 o9) kx it F B cl bt) (Put.m rfl rfl rfl) rfl (rest := []) rfl (Nat.le_of_ble_eq_true rfl) ⟨Nat.le_refl _, Nat.le_refl _⟩ ?_
  refine r_aload_n C (pc := 1115) dL_law_1115 rfl 2 rfl ?_
  refine b_cVi C (pc := 1116) dL_law_1116 (c_X9_undo (xl g) (xG g) q F (B 1) (B 2) (B 3) (B 5) (B 6) (B 8) (B 9) (B 11) (B 12) (B 13) (B 34) r o0' o1' o2' o3' o4' o5' o6' o7' o8' o9' o10' o11' o12' o13' eM) rfl gl_X9_undo ⟨rfl, rfl⟩ 0 hd_X9_undo ⟨(Nat.le_of_ble_eq_true rfl), (Nat.le_of_ble_eq_true rfl)⟩ rfl 49 rfl rfl rfl [49, 50, 51, 52, 53, 54, 55, 56, 57, 58, 59, 75] rfl (srt_nd 0 rfl) (ws' := wLaw (xG g) qx rw q (up (up (up (up x 1 o0) 3 o4) 5 o6) 7 o8) (up (up (up (up (up (up X 0 o1) 1 o2) 2 o3) 3 o5) 4 o7) 5 o9) kx it (up (up (up (up F 0 o0') 4 o1') 7 o2') 10 o3') (up (up (up (up (up (up (up (up (up (up B 1 o4') 2 o5') 3 o6') 5 o7') 6 o8') 8 o9') 9 o10') 11 o11') 12 o12') 13 o13') cl bt) (Put.m rfl rfl rfl) rfl (rest := [.int (jz r)]) rfl (Nat.le_of_ble_eq_true rfl) ⟨Nat.le_refl _, Nat.le_refl _⟩ ?_
  refine r_icmp_eqT C (pc := 1119) 1360 dL_law_1119 rfl ?_
  exact kk

-- count
set_option maxRecDepth 100000 in
set_option maxHeartbeats 4000000 in
theorem law_32 {g : XC} (C : XOk g cL_law RL lw_tbl room_1 4) {b L : Nat} {sc : Nat → Int} (LW : LawOk g b L sc) (qx rw q : Nat → Nat) (x : Nat → Int) (X : Nat → Nat → Int) (kx : Nat → Int64) (it : Nat → Nat → Int64) (F : Nat → Int) (B : Nat → Nat → Int) (cl bt : Nat → Int64) (i : Int) (h1 : iin (i + 1) L = true) (h2 : iin (i + 2) L = true) (h3 : iin (i + 3) L = true) (h4 : iin (i + 4) L = true) (h5 : iin (i + 5) L = true) (r : Int) (eX : f_X8_count (sc (ix (i + 1))) (x 3) (x 5) (x 7) (x 23) = some r) (eM : f_X9_count (sc (ix (i + 1))) (F 4) (F 7) (F 10) (F 15) = some r) (kk : WW g 600000 7302250 (wLaw (xG g) qx rw q x X kx it F B cl bt) 1360 [(0, .ref b), (1, .ref (qx 0)), (2, .ref (q 35)), (3, .int (jz i))] []) : WW g 600000 7302250 (wLaw (xG g) qx rw q x X kx it F B cl bt) 1124 [(0, .ref b), (1, .ref (qx 0)), (2, .ref (q 35)), (3, .int (jz i))] [] := by
  refine r_aload_n C (pc := 1124) dL_law_1124 rfl 1 rfl ?_
  refine r_aload_n C (pc := 1125) dL_law_1125 rfl 0 rfl ?_
  refine r_iload_n C (pc := 1126) dL_law_1126 rfl 3 rfl ?_
  refine r_iconst C (pc := 1127) dL_law_1127 ?_
  refine r_iadd C (pc := 1128) dL_law_1128 ?_
  refine r_sld C LW (pc := 1129) dL_law_1129 h1 ?_
  refine b_cVi C (pc := 1130) dL_law_1130 (c_X8_count (xl g) (xG g) (qx 0) (qx 1) (qx 12) (qx 23) (qx 25) (qx 30) (qx 36) (qx 39) (qx 2) (qx 4) (qx 5) (qx 6) (qx 8) (qx 10) (qx 7) (qx 9) (qx 11) (qx 37) (qx 38) (x 0) (x 2) (x 3) (x 4) (x 5) (x 6) (x 7) (x 23) (x 24) (sc (ix (i + 1))) r eX) rfl gl_X8_count ⟨rfl, rfl⟩ 1 hd_X8_count ⟨(Nat.le_of_ble_eq_true rfl), (Nat.le_of_ble_eq_true rfl)⟩ rfl 0 rfl rfl rfl [0, 1, 6, 8, 10, 36] rfl (srt_nd 0 rfl) (ws' := wLaw (xG g) qx rw q x X kx it F B cl bt) (Put.m rfl rfl rfl) rfl (rest := []) rfl (Nat.le_of_ble_eq_true rfl) ⟨Nat.le_refl _, Nat.le_refl _⟩ ?_
  refine r_aload_n C (pc := 1133) dL_law_1133 rfl 2 rfl ?_
  refine r_aload_n C (pc := 1134) dL_law_1134 rfl 0 rfl ?_
  refine r_iload_n C (pc := 1135) dL_law_1135 rfl 3 rfl ?_
  refine r_iconst C (pc := 1136) dL_law_1136 ?_
  refine r_iadd C (pc := 1137) dL_law_1137 ?_
  refine r_sld C LW (pc := 1138) dL_law_1138 h1 ?_
  refine b_cVi C (pc := 1139) dL_law_1139 (c_X9_count (xl g) (xG g) q F (sc (ix (i + 1))) r eM) rfl gl_X9_count ⟨rfl, rfl⟩ 1 hd_X9_count ⟨(Nat.le_of_ble_eq_true rfl), (Nat.le_of_ble_eq_true rfl)⟩ rfl 49 rfl rfl rfl [49] rfl (srt_nd 0 rfl) (ws' := wLaw (xG g) qx rw q x X kx it F B cl bt) (Put.m rfl rfl rfl) rfl (rest := [.int (jz r)]) rfl (Nat.le_of_ble_eq_true rfl) ⟨Nat.le_refl _, Nat.le_refl _⟩ ?_
  refine r_icmp_eqT C (pc := 1142) 1360 dL_law_1142 rfl ?_
  exact kk

-- tape
set_option maxRecDepth 100000 in
set_option maxHeartbeats 4000000 in
theorem law_33 {g : XC} (C : XOk g cL_law RL lw_tbl room_1 4) {b L : Nat} {sc : Nat → Int} (LW : LawOk g b L sc) (qx rw q : Nat → Nat) (x : Nat → Int) (X : Nat → Nat → Int) (kx : Nat → Int64) (it : Nat → Nat → Int64) (F : Nat → Int) (B : Nat → Nat → Int) (cl bt : Nat → Int64) (i : Int) (h1 : iin (i + 1) L = true) (h2 : iin (i + 2) L = true) (h3 : iin (i + 3) L = true) (h4 : iin (i + 4) L = true) (h5 : iin (i + 5) L = true) (r : Int) (o0 : Nat → Nat → Int64) (o1 : Nat → Int) (o2 : Nat → Int) (o0' : Nat → Int) (o1' : Nat → Int) (o2' : Nat → Int64) (eX : f_X8_tape (sc (ix (i + 1))) (sc (ix (i + 2))) (sc (ix (i + 3))) it (X 21) (X 22) = some (r, o0, o1, o2)) (eM : f_X9_tape (sc (ix (i + 1))) (sc (ix (i + 2))) (sc (ix (i + 3))) (B 16) (B 17) cl = some (r, o0', o1', o2')) (kk : WW g 600000 7302250 (wLaw (xG g) qx rw q x (up (up X 21 o1) 22 o2) kx o0 F (up (up B 16 o0') 17 o1') o2' bt) 1360 [(0, .ref b), (1, .ref (qx 0)), (2, .ref (q 35)), (3, .int (jz i))] []) : WW g 600000 7302250 (wLaw (xG g) qx rw q x X kx it F B cl bt) 1147 [(0, .ref b), (1, .ref (qx 0)), (2, .ref (q 35)), (3, .int (jz i))] [] := by
  refine r_aload_n C (pc := 1147) dL_law_1147 rfl 1 rfl ?_
  refine r_aload_n C (pc := 1148) dL_law_1148 rfl 0 rfl ?_
  refine r_iload_n C (pc := 1149) dL_law_1149 rfl 3 rfl ?_
  refine r_iconst C (pc := 1150) dL_law_1150 ?_
  refine r_iadd C (pc := 1151) dL_law_1151 ?_
  refine r_sld C LW (pc := 1152) dL_law_1152 h1 ?_
  refine r_aload_n C (pc := 1153) dL_law_1153 rfl 0 rfl ?_
  refine r_iload_n C (pc := 1154) dL_law_1154 rfl 3 rfl ?_
  refine r_iconst C (pc := 1155) dL_law_1155 ?_
  refine r_iadd C (pc := 1156) dL_law_1156 ?_
  refine r_sld C LW (pc := 1157) dL_law_1157 h2 ?_
  refine r_aload_n C (pc := 1158) dL_law_1158 rfl 0 rfl ?_
  refine r_iload_n C (pc := 1159) dL_law_1159 rfl 3 rfl ?_
  refine r_iconst C (pc := 1160) dL_law_1160 ?_
  refine r_iadd C (pc := 1161) dL_law_1161 ?_
  refine r_sld C LW (pc := 1162) dL_law_1162 h3 ?_
  refine b_cVi C (pc := 1163) dL_law_1163 (c_X8_tape (xl g) (xG g) (qx 0) (qx 1) (qx 12) (qx 23) (qx 25) (qx 30) (qx 36) (qx 39) (qx 40) (qx 41) (qx 42) rw (x 0) it (X 21) (X 22) (sc (ix (i + 1))) (sc (ix (i + 2))) (sc (ix (i + 3))) r o0 o1 o2 eX) rfl gl_X8_tape ⟨rfl, rfl⟩ 3 hd_X8_tape ⟨(Nat.le_of_ble_eq_true rfl), (Nat.le_of_ble_eq_true rfl)⟩ rfl 0 rfl rfl rfl [0, 39, 40, 41, 42, 43, 44, 45, 46, 47, 48] rfl (srt_nd 0 rfl) (ws' := wLaw (xG g) qx rw q x (up (up X 21 o1) 22 o2) kx o0 F B cl bt) (Put.m rfl rfl rfl) rfl (rest := []) rfl (Nat.le_of_ble_eq_true rfl) ⟨Nat.le_refl _, Nat.le_refl _⟩ ?_
  refine r_aload_n C (pc := 1166) dL_law_1166 rfl 2 rfl ?_
  refine r_aload_n C (pc := 1167) dL_law_1167 rfl 0 rfl ?_
  refine r_iload_n C (pc := 1168) dL_law_1168 rfl 3 rfl ?_
  refine r_iconst C (pc := 1169) dL_law_1169 ?_
  refine r_iadd C (pc := 1170) dL_law_1170 ?_
  refine r_sld C LW (pc := 1171) dL_law_1171 h1 ?_
  refine r_aload_n C (pc := 1172) dL_law_1172 rfl 0 rfl ?_
  refine r_iload_n C (pc := 1173) dL_law_1173 rfl 3 rfl ?_
  refine r_iconst C (pc := 1174) dL_law_1174 ?_
  refine r_iadd C (pc := 1175) dL_law_1175 ?_
  refine r_sld C LW (pc := 1176) dL_law_1176 h2 ?_
  refine r_aload_n C (pc := 1177) dL_law_1177 rfl 0 rfl ?_
  refine r_iload_n C (pc := 1178) dL_law_1178 rfl 3 rfl ?_
  refine r_iconst C (pc := 1179) dL_law_1179 ?_
  refine r_iadd C (pc := 1180) dL_law_1180 ?_
  refine r_sld C LW (pc := 1181) dL_law_1181 h3 ?_
  refine b_cVi C (pc := 1182) dL_law_1182 (c_X9_tape (xl g) (xG g) q F (B 16) (B 17) cl (sc (ix (i + 1))) (sc (ix (i + 2))) (sc (ix (i + 3))) r o0' o1' o2' eM) rfl gl_X9_tape ⟨rfl, rfl⟩ 3 hd_X9_tape ⟨(Nat.le_of_ble_eq_true rfl), (Nat.le_of_ble_eq_true rfl)⟩ rfl 49 rfl rfl rfl [49, 61, 62, 63] rfl (srt_nd 0 rfl) (ws' := wLaw (xG g) qx rw q x (up (up X 21 o1) 22 o2) kx o0 F (up (up B 16 o0') 17 o1') o2' bt) (Put.m rfl rfl rfl) rfl (rest := [.int (jz r)]) rfl (Nat.le_of_ble_eq_true rfl) ⟨Nat.le_refl _, Nat.le_refl _⟩ ?_
  refine r_icmp_eqT C (pc := 1185) 1360 dL_law_1185 rfl ?_
  exact kk

-- item
set_option maxRecDepth 100000 in
set_option maxHeartbeats 4000000 in
theorem law_34 {g : XC} (C : XOk g cL_law RL lw_tbl room_1 4) {b L : Nat} {sc : Nat → Int} (LW : LawOk g b L sc) (qx rw q : Nat → Nat) (x : Nat → Int) (X : Nat → Nat → Int) (kx : Nat → Int64) (it : Nat → Nat → Int64) (F : Nat → Int) (B : Nat → Nat → Int) (cl bt : Nat → Int64) (i : Int) (h1 : iin (i + 1) L = true) (h2 : iin (i + 2) L = true) (h3 : iin (i + 3) L = true) (h4 : iin (i + 4) L = true) (h5 : iin (i + 5) L = true) (r : Int) (o0 : Nat → Nat → Int64) (o0' : Nat → Int64) (eX : f_X8_item (sc (ix (i + 1))) (sc (ix (i + 2))) ((lshlI (i2lI (sc (ix (i + 3)))) 32) ||| ((i2lI (sc (ix (i + 4)))) &&& (4294967295 : Int64))) it (X 21) (X 22) = some (r, o0)) (eM : f_X9_item (sc (ix (i + 1))) (sc (ix (i + 2))) ((lshlI (i2lI (sc (ix (i + 3)))) 32) ||| ((i2lI (sc (ix (i + 4)))) &&& (4294967295 : Int64))) (B 16) (B 17) cl = some (r, o0')) (kk : WW g 600000 7302250 (wLaw (xG g) qx rw q x X kx o0 F B o0' bt) 1360 [(0, .ref b), (1, .ref (qx 0)), (2, .ref (q 35)), (3, .int (jz i))] []) : WW g 600000 7302250 (wLaw (xG g) qx rw q x X kx it F B cl bt) 1190 [(0, .ref b), (1, .ref (qx 0)), (2, .ref (q 35)), (3, .int (jz i))] [] := by
  refine r_aload_n C (pc := 1190) dL_law_1190 rfl 1 rfl ?_
  refine r_aload_n C (pc := 1191) dL_law_1191 rfl 0 rfl ?_
  refine r_iload_n C (pc := 1192) dL_law_1192 rfl 3 rfl ?_
  refine r_iconst C (pc := 1193) dL_law_1193 ?_
  refine r_iadd C (pc := 1194) dL_law_1194 ?_
  refine r_sld C LW (pc := 1195) dL_law_1195 h1 ?_
  refine r_aload_n C (pc := 1196) dL_law_1196 rfl 0 rfl ?_
  refine r_iload_n C (pc := 1197) dL_law_1197 rfl 3 rfl ?_
  refine r_iconst C (pc := 1198) dL_law_1198 ?_
  refine r_iadd C (pc := 1199) dL_law_1199 ?_
  refine r_sld C LW (pc := 1200) dL_law_1200 h2 ?_
  refine r_aload_n C (pc := 1201) dL_law_1201 rfl 0 rfl ?_
  refine r_iload_n C (pc := 1202) dL_law_1202 rfl 3 rfl ?_
  refine r_iconst C (pc := 1203) dL_law_1203 ?_
  refine r_iadd C (pc := 1204) dL_law_1204 ?_
  refine r_sld C LW (pc := 1205) dL_law_1205 h3 ?_
  refine r_i2l C (pc := 1206) dL_law_1206 ?_
  refine r_bipush C (pc := 1207) dL_law_1207 rfl ?_
  refine r_lshl C (pc := 1209) dL_law_1209 ?_
  refine r_aload_n C (pc := 1210) dL_law_1210 rfl 0 rfl ?_
  refine r_iload_n C (pc := 1211) dL_law_1211 rfl 3 rfl ?_
  refine r_iconst C (pc := 1212) dL_law_1212 ?_
  refine r_iadd C (pc := 1213) dL_law_1213 ?_
  refine r_sld C LW (pc := 1214) dL_law_1214 h4 ?_
  refine r_i2l C (pc := 1215) dL_law_1215 ?_
  refine r_ldc2 C (pc := 1216) dL_law_1216 tw_1371 ?_
  refine r_land C (pc := 1219) dL_law_1219 ?_
  refine r_lor C (pc := 1220) dL_law_1220 ?_
  refine b_cVi C (pc := 1221) dL_law_1221 (c_X8_item (xl g) (xG g) (qx 0) (qx 1) (qx 12) (qx 23) (qx 25) (qx 30) (qx 36) (qx 39) (qx 40) (qx 41) (qx 42) rw (x 0) it (X 21) (X 22) (sc (ix (i + 1))) (sc (ix (i + 2))) ((lshlI (i2lI (sc (ix (i + 3)))) 32) ||| ((i2lI (sc (ix (i + 4)))) &&& (4294967295 : Int64))) r o0 eX) rfl gl_X8_item ⟨rfl, rfl⟩ 3 hd_X8_item ⟨(Nat.le_of_ble_eq_true rfl), (Nat.le_of_ble_eq_true rfl)⟩ rfl 0 rfl rfl rfl [0, 39, 40, 41, 42, 43, 44, 45, 46, 47, 48] rfl (srt_nd 0 rfl) (ws' := wLaw (xG g) qx rw q x X kx o0 F B cl bt) (Put.m rfl rfl rfl) rfl (rest := []) rfl (Nat.le_of_ble_eq_true rfl) ⟨Nat.le_refl _, Nat.le_refl _⟩ ?_
  refine r_aload_n C (pc := 1224) dL_law_1224 rfl 2 rfl ?_
  refine r_aload_n C (pc := 1225) dL_law_1225 rfl 0 rfl ?_
  refine r_iload_n C (pc := 1226) dL_law_1226 rfl 3 rfl ?_
  refine r_iconst C (pc := 1227) dL_law_1227 ?_
  refine r_iadd C (pc := 1228) dL_law_1228 ?_
  refine r_sld C LW (pc := 1229) dL_law_1229 h1 ?_
  refine r_aload_n C (pc := 1230) dL_law_1230 rfl 0 rfl ?_
  refine r_iload_n C (pc := 1231) dL_law_1231 rfl 3 rfl ?_
  refine r_iconst C (pc := 1232) dL_law_1232 ?_
  refine r_iadd C (pc := 1233) dL_law_1233 ?_
  refine r_sld C LW (pc := 1234) dL_law_1234 h2 ?_
  refine r_aload_n C (pc := 1235) dL_law_1235 rfl 0 rfl ?_
  refine r_iload_n C (pc := 1236) dL_law_1236 rfl 3 rfl ?_
  refine r_iconst C (pc := 1237) dL_law_1237 ?_
  refine r_iadd C (pc := 1238) dL_law_1238 ?_
  refine r_sld C LW (pc := 1239) dL_law_1239 h3 ?_
  refine r_i2l C (pc := 1240) dL_law_1240 ?_
  refine r_bipush C (pc := 1241) dL_law_1241 rfl ?_
  refine r_lshl C (pc := 1243) dL_law_1243 ?_
  refine r_aload_n C (pc := 1244) dL_law_1244 rfl 0 rfl ?_
  refine r_iload_n C (pc := 1245) dL_law_1245 rfl 3 rfl ?_
  refine r_iconst C (pc := 1246) dL_law_1246 ?_
  refine r_iadd C (pc := 1247) dL_law_1247 ?_
  refine r_sld C LW (pc := 1248) dL_law_1248 h4 ?_
  refine r_i2l C (pc := 1249) dL_law_1249 ?_
  refine r_ldc2 C (pc := 1250) dL_law_1250 tw_1371 ?_
  refine r_land C (pc := 1253) dL_law_1253 ?_
  refine r_lor C (pc := 1254) dL_law_1254 ?_
  refine b_cVi C (pc := 1255) dL_law_1255 (c_X9_item (xl g) (xG g) q F (B 16) (B 17) cl (sc (ix (i + 1))) (sc (ix (i + 2))) ((lshlI (i2lI (sc (ix (i + 3)))) 32) ||| ((i2lI (sc (ix (i + 4)))) &&& (4294967295 : Int64))) r o0' eM) rfl gl_X9_item ⟨rfl, rfl⟩ 3 hd_X9_item ⟨(Nat.le_of_ble_eq_true rfl), (Nat.le_of_ble_eq_true rfl)⟩ rfl 49 rfl rfl rfl [49, 61, 62, 63] rfl (srt_nd 0 rfl) (ws' := wLaw (xG g) qx rw q x X kx o0 F B o0' bt) (Put.m rfl rfl rfl) rfl (rest := [.int (jz r)]) rfl (Nat.le_of_ble_eq_true rfl) ⟨Nat.le_refl _, Nat.le_refl _⟩ ?_
  refine r_icmp_eqT C (pc := 1258) 1360 dL_law_1258 rfl ?_
  exact kk

-- peek
set_option maxRecDepth 100000 in
set_option maxHeartbeats 4000000 in
theorem law_35 {g : XC} (C : XOk g cL_law RL lw_tbl room_1 4) {b L : Nat} {sc : Nat → Int} (LW : LawOk g b L sc) (qx rw q : Nat → Nat) (x : Nat → Int) (X : Nat → Nat → Int) (kx : Nat → Int64) (it : Nat → Nat → Int64) (F : Nat → Int) (B : Nat → Nat → Int) (cl bt : Nat → Int64) (i : Int) (h1 : iin (i + 1) L = true) (h2 : iin (i + 2) L = true) (h3 : iin (i + 3) L = true) (h4 : iin (i + 4) L = true) (h5 : iin (i + 5) L = true) (r : Int64) (eX : f_X8_peek (sc (ix (i + 1))) (sc (ix (i + 2))) it (X 21) (X 22) = some r) (eM : f_X9_peek (sc (ix (i + 1))) (sc (ix (i + 2))) (B 16) (B 17) cl = some r) (kk : WW g 600000 7302250 (wLaw (xG g) qx rw q x X kx it F B cl bt) 1360 [(0, .ref b), (1, .ref (qx 0)), (2, .ref (q 35)), (3, .int (jz i))] []) : WW g 600000 7302250 (wLaw (xG g) qx rw q x X kx it F B cl bt) 1263 [(0, .ref b), (1, .ref (qx 0)), (2, .ref (q 35)), (3, .int (jz i))] [] := by
  refine r_aload_n C (pc := 1263) dL_law_1263 rfl 1 rfl ?_
  refine r_aload_n C (pc := 1264) dL_law_1264 rfl 0 rfl ?_
  refine r_iload_n C (pc := 1265) dL_law_1265 rfl 3 rfl ?_
  refine r_iconst C (pc := 1266) dL_law_1266 ?_
  refine r_iadd C (pc := 1267) dL_law_1267 ?_
  refine r_sld C LW (pc := 1268) dL_law_1268 h1 ?_
  refine r_aload_n C (pc := 1269) dL_law_1269 rfl 0 rfl ?_
  refine r_iload_n C (pc := 1270) dL_law_1270 rfl 3 rfl ?_
  refine r_iconst C (pc := 1271) dL_law_1271 ?_
  refine r_iadd C (pc := 1272) dL_law_1272 ?_
  refine r_sld C LW (pc := 1273) dL_law_1273 h2 ?_
  refine b_cVl C (pc := 1274) dL_law_1274 (c_X8_peek (xl g) (xG g) (qx 0) (qx 1) (qx 12) (qx 23) (qx 25) (qx 30) (qx 36) (qx 39) (qx 40) (qx 41) (qx 42) rw (x 0) it (X 21) (X 22) (sc (ix (i + 1))) (sc (ix (i + 2))) r eX) rfl gl_X8_peek ⟨rfl, rfl⟩ 2 hd_X8_peek ⟨(Nat.le_of_ble_eq_true rfl), (Nat.le_of_ble_eq_true rfl)⟩ rfl 0 rfl rfl rfl [0, 39, 40, 41, 42, 43, 44, 45, 46, 47, 48] rfl (srt_nd 0 rfl) (ws' := wLaw (xG g) qx rw q x X kx it F B cl bt) (Put.m rfl rfl rfl) rfl (rest := []) rfl (Nat.le_of_ble_eq_true rfl) ⟨Nat.le_refl _, Nat.le_refl _⟩ ?_
  refine r_aload_n C (pc := 1277) dL_law_1277 rfl 2 rfl ?_
  refine r_aload_n C (pc := 1278) dL_law_1278 rfl 0 rfl ?_
  refine r_iload_n C (pc := 1279) dL_law_1279 rfl 3 rfl ?_
  refine r_iconst C (pc := 1280) dL_law_1280 ?_
  refine r_iadd C (pc := 1281) dL_law_1281 ?_
  refine r_sld C LW (pc := 1282) dL_law_1282 h1 ?_
  refine r_aload_n C (pc := 1283) dL_law_1283 rfl 0 rfl ?_
  refine r_iload_n C (pc := 1284) dL_law_1284 rfl 3 rfl ?_
  refine r_iconst C (pc := 1285) dL_law_1285 ?_
  refine r_iadd C (pc := 1286) dL_law_1286 ?_
  refine r_sld C LW (pc := 1287) dL_law_1287 h2 ?_
  refine b_cVl C (pc := 1288) dL_law_1288 (c_X9_peek (xl g) (xG g) q F (B 16) (B 17) cl (sc (ix (i + 1))) (sc (ix (i + 2))) r eM) rfl gl_X9_peek ⟨rfl, rfl⟩ 2 hd_X9_peek ⟨(Nat.le_of_ble_eq_true rfl), (Nat.le_of_ble_eq_true rfl)⟩ rfl 49 rfl rfl rfl [49, 61, 62, 63] rfl (srt_nd 0 rfl) (ws' := wLaw (xG g) qx rw q x X kx it F B cl bt) (Put.m rfl rfl rfl) rfl (rest := [.long r]) rfl (Nat.le_of_ble_eq_true rfl) ⟨Nat.le_refl _, Nat.le_refl _⟩ ?_
  refine r_lcmp C (pc := 1291) dL_law_1291 ?_
  refine r_if_lcT C (pc := 1292) 1360 dL_law_1292 rfl ?_
  exact kk

-- shift
set_option maxRecDepth 100000 in
set_option maxHeartbeats 4000000 in
theorem law_36 {g : XC} (C : XOk g cL_law RL lw_tbl room_1 4) {b L : Nat} {sc : Nat → Int} (LW : LawOk g b L sc) (qx rw q : Nat → Nat) (x : Nat → Int) (X : Nat → Nat → Int) (kx : Nat → Int64) (it : Nat → Nat → Int64) (F : Nat → Int) (B : Nat → Nat → Int) (cl bt : Nat → Int64) (i : Int) (h1 : iin (i + 1) L = true) (h2 : iin (i + 2) L = true) (h3 : iin (i + 3) L = true) (h4 : iin (i + 4) L = true) (h5 : iin (i + 5) L = true) (r : Int) (o0 : Nat → Nat → Int64) (o0' : Nat → Int64) (o1' : Nat → Int64) (eX : f_X8_shift (sc (ix (i + 1))) (sc (ix (i + 2))) (sc (ix (i + 3))) (sc (ix (i + 4))) (sc (ix (i + 5))) it (X 21) (X 22) = some (r, o0)) (eM : f_X9_shift (sc (ix (i + 1))) (sc (ix (i + 2))) (sc (ix (i + 3))) (sc (ix (i + 4))) (sc (ix (i + 5))) (B 16) (B 17) cl bt = some (r, o0', o1')) (kk : WW g 600000 7302250 (wLaw (xG g) qx rw q x X kx o0 F B o0' o1') 1360 [(0, .ref b), (1, .ref (qx 0)), (2, .ref (q 35)), (3, .int (jz i))] []) : WW g 600000 7302250 (wLaw (xG g) qx rw q x X kx it F B cl bt) 1297 [(0, .ref b), (1, .ref (qx 0)), (2, .ref (q 35)), (3, .int (jz i))] [] := by
  refine r_aload_n C (pc := 1297) dL_law_1297 rfl 1 rfl ?_
  refine r_aload_n C (pc := 1298) dL_law_1298 rfl 0 rfl ?_
  refine r_iload_n C (pc := 1299) dL_law_1299 rfl 3 rfl ?_
  refine r_iconst C (pc := 1300) dL_law_1300 ?_
  refine r_iadd C (pc := 1301) dL_law_1301 ?_
  refine r_sld C LW (pc := 1302) dL_law_1302 h1 ?_
  refine r_aload_n C (pc := 1303) dL_law_1303 rfl 0 rfl ?_
  refine r_iload_n C (pc := 1304) dL_law_1304 rfl 3 rfl ?_
  refine r_iconst C (pc := 1305) dL_law_1305 ?_
  refine r_iadd C (pc := 1306) dL_law_1306 ?_
  refine r_sld C LW (pc := 1307) dL_law_1307 h2 ?_
  refine r_aload_n C (pc := 1308) dL_law_1308 rfl 0 rfl ?_
  refine r_iload_n C (pc := 1309) dL_law_1309 rfl 3 rfl ?_
  refine r_iconst C (pc := 1310) dL_law_1310 ?_
  refine r_iadd C (pc := 1311) dL_law_1311 ?_
  refine r_sld C LW (pc := 1312) dL_law_1312 h3 ?_
  refine r_aload_n C (pc := 1313) dL_law_1313 rfl 0 rfl ?_
  refine r_iload_n C (pc := 1314) dL_law_1314 rfl 3 rfl ?_
  refine r_iconst C (pc := 1315) dL_law_1315 ?_
  refine r_iadd C (pc := 1316) dL_law_1316 ?_
  refine r_sld C LW (pc := 1317) dL_law_1317 h4 ?_
  refine r_aload_n C (pc := 1318) dL_law_1318 rfl 0 rfl ?_
  refine r_iload_n C (pc := 1319) dL_law_1319 rfl 3 rfl ?_
  refine r_iconst C (pc := 1320) dL_law_1320 ?_
  refine r_iadd C (pc := 1321) dL_law_1321 ?_
  refine r_sld C LW (pc := 1322) dL_law_1322 h5 ?_
  refine b_cVi C (pc := 1323) dL_law_1323 (c_X8_shift (xl g) (xG g) (qx 0) (qx 1) (qx 12) (qx 23) (qx 25) (qx 30) (qx 36) (qx 39) (qx 40) (qx 41) (qx 42) rw (x 0) it (X 21) (X 22) (sc (ix (i + 1))) (sc (ix (i + 2))) (sc (ix (i + 3))) (sc (ix (i + 4))) (sc (ix (i + 5))) r o0 eX) rfl gl_X8_shift ⟨rfl, rfl⟩ 5 hd_X8_shift ⟨(Nat.le_of_ble_eq_true rfl), (Nat.le_of_ble_eq_true rfl)⟩ rfl 0 rfl rfl rfl [0, 39, 40, 41, 42, 43, 44, 45, 46, 47, 48] rfl (srt_nd 0 rfl) (ws' := wLaw (xG g) qx rw q x X kx o0 F B cl bt) (Put.m rfl rfl rfl) rfl (rest := []) rfl (Nat.le_of_ble_eq_true rfl) ⟨Nat.le_refl _, Nat.le_refl _⟩ ?_
  refine r_aload_n C (pc := 1326) dL_law_1326 rfl 2 rfl ?_
  refine r_aload_n C (pc := 1327) dL_law_1327 rfl 0 rfl ?_
  refine r_iload_n C (pc := 1328) dL_law_1328 rfl 3 rfl ?_
  refine r_iconst C (pc := 1329) dL_law_1329 ?_
  refine r_iadd C (pc := 1330) dL_law_1330 ?_
  refine r_sld C LW (pc := 1331) dL_law_1331 h1 ?_
  refine r_aload_n C (pc := 1332) dL_law_1332 rfl 0 rfl ?_
  refine r_iload_n C (pc := 1333) dL_law_1333 rfl 3 rfl ?_
  refine r_iconst C (pc := 1334) dL_law_1334 ?_
  refine r_iadd C (pc := 1335) dL_law_1335 ?_
  refine r_sld C LW (pc := 1336) dL_law_1336 h2 ?_
  refine r_aload_n C (pc := 1337) dL_law_1337 rfl 0 rfl ?_
  refine r_iload_n C (pc := 1338) dL_law_1338 rfl 3 rfl ?_
  refine r_iconst C (pc := 1339) dL_law_1339 ?_
  refine r_iadd C (pc := 1340) dL_law_1340 ?_
  refine r_sld C LW (pc := 1341) dL_law_1341 h3 ?_
  refine r_aload_n C (pc := 1342) dL_law_1342 rfl 0 rfl ?_
  refine r_iload_n C (pc := 1343) dL_law_1343 rfl 3 rfl ?_
  refine r_iconst C (pc := 1344) dL_law_1344 ?_
  refine r_iadd C (pc := 1345) dL_law_1345 ?_
  refine r_sld C LW (pc := 1346) dL_law_1346 h4 ?_
  refine r_aload_n C (pc := 1347) dL_law_1347 rfl 0 rfl ?_
  refine r_iload_n C (pc := 1348) dL_law_1348 rfl 3 rfl ?_
  refine r_iconst C (pc := 1349) dL_law_1349 ?_
  refine r_iadd C (pc := 1350) dL_law_1350 ?_
  refine r_sld C LW (pc := 1351) dL_law_1351 h5 ?_
  refine b_cVi C (pc := 1352) dL_law_1352 (c_X9_shift (xl g) (xG g) q F (B 16) (B 17) cl bt (sc (ix (i + 1))) (sc (ix (i + 2))) (sc (ix (i + 3))) (sc (ix (i + 4))) (sc (ix (i + 5))) r o0' o1' eM) rfl gl_X9_shift ⟨rfl, rfl⟩ 5 hd_X9_shift ⟨(Nat.le_of_ble_eq_true rfl), (Nat.le_of_ble_eq_true rfl)⟩ rfl 49 rfl rfl rfl [49, 61, 62, 63, 64] rfl (srt_nd 0 rfl) (ws' := wLaw (xG g) qx rw q x X kx o0 F B o0' o1') (Put.m rfl rfl rfl) rfl (rest := [.int (jz r)]) rfl (Nat.le_of_ble_eq_true rfl) ⟨Nat.le_refl _, Nat.le_refl _⟩ ?_
  refine r_icmp_eqT C (pc := 1355) 1360 dL_law_1355 rfl ?_
  exact kk
