theorem tw_ao : Cond.arrayOver (.array .long) ∈ lw_tbl := List.mem_append_right _ (List.mem_append_left _ (List.mem_of_getElem? (i := 205) rfl))
theorem r_widen {g : XC} {k n k2 n2 : Nat} {ws : va_W} {pc : Nat} {L : List (Nat × Value)} {st : List Value} (h1 : k ≤ k2) (h2 : n ≤ n2) (kk : WW g k2 n2 ws pc L st) : WW g k n ws pc L st := fun H locs ls hP hD hS hl => W.widen h1 h2 (kk H locs ls hP hD hS hl)
set_option maxRecDepth 100000 in
set_option maxHeartbeats 8000000 in
theorem whole_start {p : Program} {e : Env} {s : State} {m : MethodId} {below : List Frame} {meth : Method} {c : Code} (l : Launch) (hflags : l.flags = flags0) {b L : Nat} {xs0 : Nat → Int32} (hL : L ≤ 3072) (C0 : lw_At p s m meth c b L xs0) : W p l e room_1 s m #[Value.ref b] below meth c s.heap [] 0 0 (lw_Z below #[Value.ref b] s) (entryFrame m ([Value.ref b] : List Value).toArray 4) := by
  obtain ⟨hx, hb, hr, hml, hown, hts, hX, hbl, hlocks, hgv⟩ := C0
  obtain ⟨cX0, iX0, hKX0⟩ := u_known (C := RX0) (T := TX0) (N := 7) (n := 7) hts fu_wsX00 (hts _ tw_218)
  obtain ⟨cX1, iX1, hKX1⟩ := u_known (C := RX1) (T := TX1) (N := 3) (n := 3) hts fu_wsX10 (hts _ tw_139)
  obtain ⟨cX2, iX2, hKX2⟩ := u_known (C := RX2) (T := TX2) (N := 6) (n := 6) hts fu_wsX20 (hts _ tw_96)
  obtain ⟨cX3, iX3, hKX3⟩ := u_known (C := RX3) (T := TX3) (N := 5) (n := 5) hts fu_wsX30 (hts _ tw_191)
  obtain ⟨cX4, iX4, hKX4⟩ := u_known (C := RX4) (T := TX4) (N := 2) (n := 2) hts fu_wsX40 (hts _ tw_102)
  obtain ⟨cX5, iX5, hKX5⟩ := u_known (C := RX5) (T := TX5) (N := 3) (n := 3) hts fu_wsX50 (hts _ tw_272)
  obtain ⟨cX6, iX6, hKX6⟩ := u_known (C := RX6) (T := TX6) (N := 4) (n := 4) hts fu_wsX60 (hts _ tw_251)
  obtain ⟨cX8, iX8, hKX8⟩ := u_known (C := RX8) (T := TX8) (N := 8) (n := 8) hts fu_wsX80 (hts _ tw_88)
  obtain ⟨cX9, iX9, hKX9⟩ := u_known (C := RX9) (T := TX9) (N := 35) (n := 35) hts fu_wsX90 (hts _ tw_902)
  obtain ⟨cI, kI, pI, fI, hkI, hdI⟩ := Cond.arrayClass_spec (hts _ tw_137)
  obtain ⟨cJ, kJ, pJ, fJ, hkJ, hdJ⟩ := Cond.arrayClass_spec (hts _ tw_249)
  obtain ⟨cB, kB, pB, fB, hkB, hdB⟩ := Cond.arrayClass_spec (hts _ tw_270)
  have AO : va_AOA .long s := va_AOA.of (hts _ tw_ao)
  obtain ⟨pL, cL, kL, -, -, hkL, hdL, fL⟩ := aoA_spec AO
  have hK : va_K (fun k => ([cX0, cX1, cX2, cX3, cX4, cX5, cX6, cX8, cX9] : List ClassId).getD k cX0, fun k => ([iX0, iX1, iX2, iX3, iX4, iX5, iX6, iX8, iX9] : List (Nat → Nat)).getD k iX0) vwCl [(cI, .int), (cJ, .long), (cB, .byte), (cL, .array .long)] s := by
    refine ⟨fun k z hz => ?_, fun k z hz => ?_⟩
    · match k, hz with
      | 0, hz => cases hz; exact hKX0
      | 1, hz => cases hz; exact hKX1
      | 2, hz => cases hz; exact hKX2
      | 3, hz => cases hz; exact hKX3
      | 4, hz => cases hz; exact hKX4
      | 5, hz => cases hz; exact hKX5
      | 6, hz => cases hz; exact hKX6
      | 7, hz => cases hz; exact hKX8
      | 8, hz => cases hz; exact hKX9
      | k + 9, hz => simp [vwCl] at hz
    · match k, hz with
      | 0, hz => cases hz; exact ⟨fun n z => ⟨fun k h => (by cases h), kI, hkI, pI, hdI⟩, fI⟩
      | 1, hz => cases hz; exact ⟨fun n z => ⟨fun k h => (by cases h), kJ, hkJ, pJ, hdJ⟩, fJ⟩
      | 2, hz => cases hz; exact ⟨fun n z => ⟨fun k h => (by cases h), kB, hkB, pB, hdB⟩, fB⟩
      | 3, hz => cases hz; exact ⟨fun n z => ⟨fun k h => (by cases h), kL, hkL, pL, hdL⟩, fL⟩
      | k + 4, hz => simp at hz
  generalize hG : (((fun k => ([cX0, cX1, cX2, cX3, cX4, cX5, cX6, cX8, cX9] : List ClassId).getD k cX0, fun k => ([iX0, iX1, iX2, iX3, iX4, iX5, iX6, iX8, iX9] : List (Nat → Nat)).getD k iX0), cI, cJ, cB, cL) : gG) = G
  have hK2 : va_K G.1 vwCl (tyG G) s := by rw [← hG]; exact hK
  have go : ∀ g : XC, xp g = p → xl g = l → xR g = room_1 → xs g = s → XOk g cL_law RL lw_tbl room_1 4 → va_AOA .long (xs g) → LawOk g b L (fun k => (xs0 k).toInt) → (∀ ws', FinI g 600000 7302250 ws' (jz 1)) → WW g 0 0 [] 0 [(0, .ref b)] [] := by
    intro g _ _ _ _ C AO LW hF
    refine r_new C (pc := 0) dL_law_0 (ci := 7) rfl fu_wsX80 tyX8 tyX8_ok tw_87 tw_88 tw_74 (fs := [.null, .null, .int (jz 0), .null, .null, .null, .null, .null]) (by decide +kernel) ⟨(Nat.le_of_ble_eq_true rfl), (Nat.le_of_ble_eq_true rfl)⟩ (fun a8 => ?_)
    refine r_ws (w2 := [(a8, .inr (7, [.null, .null, .int (jz 0), .null, .null, .null, .null, .null]))]) rfl ?_
    refine r_dup C (pc := 3) dL_law_3 rfl ?_
    obtain ⟨o0_14_9_9, o1_14_9_9, r69_9, o0_69_9, o1_69_9, o2_69_9, o3_69_9, o0_14_9_20, o1_14_9_20, r69_20, o0_69_20, o1_69_20, o2_69_20, o3_69_20, o0_14_36, o1_14_36, o0_14_9_47, o1_14_9_47, o0_14_9_58, o1_14_9_58, e14_9_9, e69_9, e14_9_20, e69_20, e14_36, e14_9_47, e14_9_58, hRel⟩ := st_init
    refine b_cI C AO (pc := 4) dL_law_4 (c_X8_init (xl g) (xG g) a8 o0_14_9_9 o1_14_9_9 r69_9 o0_69_9 o1_69_9 o2_69_9 o3_69_9 o0_14_9_20 o1_14_9_20 r69_20 o0_69_20 o1_69_20 o2_69_20 o3_69_20 o0_14_36 o1_14_36 o0_14_9_47 o1_14_9_47 o0_14_9_58 o1_14_9_58 e14_9_9 e69_9 e14_9_20 e69_20 e14_36 e14_9_47 e14_9_58) rfl gl_X8_init tw_74 tw_89 tw_90 rfl ⟨rfl, rfl⟩ 0 hd_X8_init ⟨(Nat.le_of_ble_eq_true rfl), (Nat.le_of_ble_eq_true rfl)⟩ rfl [0] [] (wr := []) rfl rfl rfl (by decide +kernel) (by decide +kernel) (rest := [.ref a8]) rfl (Nat.le_of_ble_eq_true rfl) ⟨(Nat.le_of_ble_eq_true rfl), (Nat.le_of_ble_eq_true rfl)⟩ (fun u8 => ?_)
    refine r_ws (w2 := wi_X8_init (xG g) a8 o0_14_9_9 o1_14_9_9 r69_9 o0_69_9 o1_69_9 o2_69_9 o3_69_9 o0_14_9_20 o1_14_9_20 r69_20 o0_69_20 o1_69_20 o2_69_20 o3_69_20 o0_14_36 o1_14_36 o0_14_9_47 o1_14_9_47 o0_14_9_58 o1_14_9_58 u8) rfl ?_
    refine r_astore_n C (pc := 7) dL_law_7 rfl (by decide) (L' := [(0, .ref b), (1, .ref a8)]) rfl ?_
    refine r_new C (pc := 8) dL_law_8 (ci := 8) rfl fu_wsX90 tyX9 tyX9_ok tw_901 tw_902 tw_83 (fs := [.int (jz 0), .null, .null, .null, .int (jz 0), .null, .null, .int (jz 0), .null, .null, .int (jz 0), .null, .null, .null, .null, .int (jz 0), .null, .null, .null, .null, .null, .null, .null, .int (jz 0), .null, .null, .null, .int (jz 0), .int (jz 0), .null, .null, .null, .null, .int (jz 0), .null]) (by decide +kernel) ⟨(Nat.le_of_ble_eq_true rfl), (Nat.le_of_ble_eq_true rfl)⟩ (fun a9 => ?_)
    refine r_dup C (pc := 11) dL_law_11 rfl ?_
    refine b_cI C AO (pc := 12) dL_law_12 (c_X9_init (xl g) (xG g) a9) rfl gl_X9_init tw_83 tw_903 tw_904 rfl ⟨rfl, rfl⟩ 0 hd_X9_init ⟨(Nat.le_of_ble_eq_true rfl), (Nat.le_of_ble_eq_true rfl)⟩ rfl [49] [0, 1, 2, 3, 4, 5, 6, 7, 8, 9, 10, 11, 12, 13, 14, 15, 16, 17, 18, 19, 20, 21, 22, 23, 24, 25, 26, 27, 28, 29, 30, 31, 32, 33, 34, 35, 36, 37, 38, 39, 40, 41, 42, 43, 44, 45, 46, 47, 48] (wr := wi_X8_init (xG g) a8 o0_14_9_9 o1_14_9_9 r69_9 o0_69_9 o1_69_9 o2_69_9 o3_69_9 o0_14_9_20 o1_14_9_20 r69_20 o0_69_20 o1_69_20 o2_69_20 o3_69_20 o0_14_36 o1_14_36 o0_14_9_47 o1_14_9_47 o0_14_9_58 o1_14_9_58 u8) rfl rfl rfl (by decide +kernel) (by decide +kernel) (rest := [.ref a9]) rfl (Nat.le_of_ble_eq_true rfl) ⟨(Nat.le_of_ble_eq_true rfl), (Nat.le_of_ble_eq_true rfl)⟩ (fun u9 => ?_)
    refine r_astore_n C (pc := 15) dL_law_15 rfl (by decide) (L' := [(0, .ref b), (1, .ref a8), (2, .ref a9)]) rfl ?_
    refine r_iconst C (pc := 16) dL_law_16 ?_
    refine r_istore_n C (pc := 17) dL_law_17 rfl (by decide) (L' := [(0, .ref b), (1, .ref a8), (2, .ref a9), (3, .int (jz 0))]) rfl ?_
    refine r_widen (k2 := 600000) (n2 := 7302250) (Nat.le_of_ble_eq_true rfl) (Nat.le_of_ble_eq_true rfl) ?_
    refine r_ws (w2 := wLaw (xG g) (fun k => ([a8, (u8.1 0), (u8.1 1), (u8.1 2), (u8.1 3), (u8.1 4), (u8.1 5), (u8.1 6), (u8.1 7), (u8.1 8), (u8.1 9), (u8.1 10), (u8.1 11), (u8.1 12), (u8.1 13), (u8.1 14), (u8.1 15), (u8.1 16), (u8.1 17), (u8.1 18), (u8.1 19), (u8.1 20), (u8.1 21), (u8.1 22), (u8.1 23), (u8.1 24), (u8.1 25), (u8.1 26), (u8.1 27), (u8.1 28), (u8.1 29), (u8.1 30), (u8.1 31), (u8.1 32), (u8.1 33), (u8.1 34), (u8.1 35), (u8.1 36), (u8.1 37), (u8.1 38), (u8.1 39), (u8.1 40), (u8.1 41)] : List Nat).getD k 0) u8.2 (fun k => ([0, (u9.1 0), (u9.1 1), (u9.1 2), 0, (u9.1 3), (u9.1 4), 0, (u9.1 5), (u9.1 6), 0, (u9.1 7), (u9.1 8), (u9.1 9), (u9.1 10), 0, (u9.1 11), (u9.1 12), (u9.1 13), (u9.1 14), (u9.1 15), (u9.1 16), (u9.1 17), 0, (u9.1 18), (u9.1 19), (u9.1 20), 0, 0, (u9.1 21), (u9.1 22), (u9.1 23), (u9.1 24), 0, (u9.1 25), a9] : List Nat).getD k 0) (x0I o0_14_9_9 o1_14_9_9 r69_9 o0_69_9 o1_69_9 o2_69_9 o3_69_9 o0_14_9_20 o1_14_9_20 r69_20 o0_69_20 o1_69_20 o2_69_20 o3_69_20 o0_14_36 o1_14_36 o0_14_9_47 o1_14_9_47 o0_14_9_58 o1_14_9_58) (X0I o0_14_9_9 o1_14_9_9 r69_9 o0_69_9 o1_69_9 o2_69_9 o3_69_9 o0_14_9_20 o1_14_9_20 r69_20 o0_69_20 o1_69_20 o2_69_20 o3_69_20 o0_14_36 o1_14_36 o0_14_9_47 o1_14_9_47 o0_14_9_58 o1_14_9_58) (fun _ => 0) (fun _ _ => 0) F0I B0I (fun _ => 0) (fun _ => 0)) rfl ?_
    exact law_loop C LW hL hF (qx := (fun k => ([a8, (u8.1 0), (u8.1 1), (u8.1 2), (u8.1 3), (u8.1 4), (u8.1 5), (u8.1 6), (u8.1 7), (u8.1 8), (u8.1 9), (u8.1 10), (u8.1 11), (u8.1 12), (u8.1 13), (u8.1 14), (u8.1 15), (u8.1 16), (u8.1 17), (u8.1 18), (u8.1 19), (u8.1 20), (u8.1 21), (u8.1 22), (u8.1 23), (u8.1 24), (u8.1 25), (u8.1 26), (u8.1 27), (u8.1 28), (u8.1 29), (u8.1 30), (u8.1 31), (u8.1 32), (u8.1 33), (u8.1 34), (u8.1 35), (u8.1 36), (u8.1 37), (u8.1 38), (u8.1 39), (u8.1 40), (u8.1 41)] : List Nat).getD k 0)) (rw := u8.2) (q := (fun k => ([0, (u9.1 0), (u9.1 1), (u9.1 2), 0, (u9.1 3), (u9.1 4), 0, (u9.1 5), (u9.1 6), 0, (u9.1 7), (u9.1 8), (u9.1 9), (u9.1 10), 0, (u9.1 11), (u9.1 12), (u9.1 13), (u9.1 14), (u9.1 15), (u9.1 16), (u9.1 17), 0, (u9.1 18), (u9.1 19), (u9.1 20), 0, 0, (u9.1 21), (u9.1 22), (u9.1 23), (u9.1 24), 0, (u9.1 25), a9] : List Nat).getD k 0)) (L + 1) 0 hRel (by omega) (by omega) (by omega)
  have hl := lv_entry ([.ref b]) (n := 4) (Nat.le_of_ble_eq_true rfl)
  rw [lg_entry_eq]
  refine go ((p, l, e, room_1, s, m), (#[Value.ref b], below, meth, c, lw_Z below #[Value.ref b] s), (G, (fun q => s.heap.size ≤ q), 4)) rfl rfl rfl rfl ⟨hx, hb, hml, hown, hts, hK2, fun q h => h, rfl, rfl⟩ AO ⟨⟨xs0, hX, fun k => rfl⟩, hbl, Nat.not_le.mpr hbl⟩ ?_ s.heap [] _ (fun k z hz => by simp at hz) ⟨fun i j z y hi => by simp at hi, fun k z hz => by simp at hz⟩ va_S.rf hl
  intro ws' cc' hcc pc L' hd H locs ls hP hD hS hl
  have hd2 : decode code pc = .ok (.ireturn, 1) := by rw [← hb]; rw [← hcc] at hd; exact hd
  exact va_forget (fun q hq => hS.2.2 q hq) (lw_ret hx hb hr hlocks hd2)
