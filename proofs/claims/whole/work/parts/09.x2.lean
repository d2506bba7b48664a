-- TightHulls$Setup.become(LTightHulls$Setup;)V
def f_X2_become (c_this_table_size : Int) (c_this_table_gaps : Nat → Int) (c_this_numbers : Nat → Int) (c_this_images : Nat → Int) (c_this_seen_most : Int) (c_this_seen_held : Int) (c_this_seen_cells : Nat → Int) (c_this_events_most : Int) (c_this_events_held : Int) (c_this_events_cells : Nat → Int) (c_this_book_most : Int) (c_this_book_held : Int) (c_this_book_cells : Nat → Int) (c_p1_table_size : Int) (c_p1_table_gaps : Nat → Int) (c_p1_numbers : Nat → Int) (c_p1_images : Nat → Int) (c_p1_seen_held : Int) (c_p1_seen_cells : Nat → Int) (c_p1_events_held : Int) (c_p1_events_cells : Nat → Int) (c_p1_book_held : Int) (c_p1_book_cells : Nat → Int) : Option (Int × (Nat → Int) × (Nat → Int) × (Nat → Int) × Int × (Nat → Int) × Int × (Nat → Int) × Int × (Nat → Int)) := bd2 (f_X4_become c_this_table_size c_this_table_gaps c_p1_table_size c_p1_table_gaps) (fun this_table_size_8 this_table_gaps_8 => grd (cpyOk 0 0 5 5 5) (grd (cpyOk 0 0 5 5 5) (bd2 (f_X1_become 12 12 c_this_seen_most c_this_seen_held c_this_seen_cells c_p1_seen_held c_p1_seen_cells) (fun this_seen_held_47 this_seen_cells_47 => bd2 (f_X1_become 24 24 c_this_events_most c_this_events_held c_this_events_cells c_p1_events_held c_p1_events_cells) (fun this_events_held_58 this_events_cells_58 => bd2 (f_X1_become 24 24 c_this_book_most c_this_book_held c_this_book_cells c_p1_book_held c_p1_book_cells) (fun this_book_held_69 this_book_cells_69 => some (this_table_size_8, this_table_gaps_8, (va_cpy c_p1_numbers c_this_numbers (ix 0) (ix 0) (ix 5)), (va_cpy c_p1_images c_this_images (ix 0) (ix 0) (ix 5)), this_seen_held_47, this_seen_cells_47, this_events_held_58, this_events_cells_58, this_book_held_69, this_book_cells_69)))))))
abbrev rm_X2_become : Room := { frames := 2, cells := 0, slots := 0, locals := 81 }
abbrev w_X2_become (G : gG) (a_this : Nat) (a_this_table : Nat) (a_this_numbers : Nat) (a_this_images : Nat) (a_this_seen : Nat) (a_this_events : Nat) (a_this_book : Nat) (a_this_table_gaps : Nat) (a_this_seen_cells : Nat) (a_this_events_cells : Nat) (a_this_book_cells : Nat) (a_p1 : Nat) (a_p1_table : Nat) (a_p1_numbers : Nat) (a_p1_images : Nat) (a_p1_seen : Nat) (a_p1_events : Nat) (a_p1_book : Nat) (a_p1_table_gaps : Nat) (a_p1_seen_cells : Nat) (a_p1_events_cells : Nat) (a_p1_book_cells : Nat) (c_this_table_size : Int) (c_this_table_gaps : Nat → Int) (c_this_numbers : Nat → Int) (c_this_images : Nat → Int) (c_this_seen_most : Int) (c_this_seen_held : Int) (c_this_seen_cells : Nat → Int) (c_this_events_most : Int) (c_this_events_held : Int) (c_this_events_cells : Nat → Int) (c_this_book_most : Int) (c_this_book_held : Int) (c_this_book_cells : Nat → Int) (c_p1_table_size : Int) (c_p1_table_gaps : Nat → Int) (c_p1_numbers : Nat → Int) (c_p1_images : Nat → Int) (c_p1_seen_most : Int) (c_p1_seen_held : Int) (c_p1_seen_cells : Nat → Int) (c_p1_events_most : Int) (c_p1_events_held : Int) (c_p1_events_cells : Nat → Int) (c_p1_book_most : Int) (c_p1_book_held : Int) (c_p1_book_cells : Nat → Int) : va_W := [(a_this, .inr (2, [.ref a_this_table, .ref a_this_numbers, .ref a_this_images, .ref a_this_seen, .ref a_this_events, .ref a_this_book])), (a_this_table, .inr (4, [.int (jz c_this_table_size), .ref a_this_table_gaps])), (a_this_table_gaps, aI G 25 c_this_table_gaps), (a_this_numbers, aI G 5 c_this_numbers), (a_this_images, aI G 5 c_this_images), (a_this_seen, .inr (1, [.int (jz c_this_seen_most), .ref a_this_seen_cells, .int (jz c_this_seen_held)])), (a_this_seen_cells, aI G 12 c_this_seen_cells), (a_this_events, .inr (1, [.int (jz c_this_events_most), .ref a_this_events_cells, .int (jz c_this_events_held)])), (a_this_events_cells, aI G 24 c_this_events_cells), (a_this_book, .inr (1, [.int (jz c_this_book_most), .ref a_this_book_cells, .int (jz c_this_book_held)])), (a_this_book_cells, aI G 24 c_this_book_cells), (a_p1, .inr (2, [.ref a_p1_table, .ref a_p1_numbers, .ref a_p1_images, .ref a_p1_seen, .ref a_p1_events, .ref a_p1_book])), (a_p1_table, .inr (4, [.int (jz c_p1_table_size), .ref a_p1_table_gaps])), (a_p1_table_gaps, aI G 25 c_p1_table_gaps), (a_p1_numbers, aI G 5 c_p1_numbers), (a_p1_images, aI G 5 c_p1_images), (a_p1_seen, .inr (1, [.int (jz c_p1_seen_most), .ref a_p1_seen_cells, .int (jz c_p1_seen_held)])), (a_p1_seen_cells, aI G 12 c_p1_seen_cells), (a_p1_events, .inr (1, [.int (jz c_p1_events_most), .ref a_p1_events_cells, .int (jz c_p1_events_held)])), (a_p1_events_cells, aI G 24 c_p1_events_cells), (a_p1_book, .inr (1, [.int (jz c_p1_book_most), .ref a_p1_book_cells, .int (jz c_p1_book_held)])), (a_p1_book_cells, aI G 24 c_p1_book_cells)]
theorem hd_X2_become : yX2_become.cls = RX2 ∧ yX2_become.cls ≠ "java/lang/invoke/MethodHandle" ∧ yX2_become.cls ≠ "java/lang/invoke/VarHandle" ∧ (parseMethodDescriptor yX2_become.desc).map (fun d => d.parameters.length) = some 1 := by decide +kernel
theorem in_X2_become_X2 : ∀ w ∈ u_ws RX2 TX2 6, w ∈ wsX2_become := fun w h => List.mem_cons_of_mem _ (List.mem_append_left _ (List.mem_append_left _ (List.mem_append_right _ (h))))
theorem gf_X2_become_12 : GF wsX2_become RX2 12 2 0 := ⟨RX2, TX2, 6, rfl, in_X2_become_X2, by decide, List.mem_of_getElem? (i := 1) rfl⟩
theorem gf_X2_become_18 : GF wsX2_become RX2 18 2 1 := ⟨RX2, TX2, 6, rfl, in_X2_become_X2, by decide, List.mem_of_getElem? (i := 2) rfl⟩
theorem mm_X2_become_3 : Cond.methodLink RX2 48 arraycopyName ∈ wsX2_become := List.mem_of_getElem? (i := 3) rfl
theorem mm_X2_become_4 : Cond.native arraycopyName ∈ wsX2_become := List.mem_of_getElem? (i := 4) rfl
theorem mm_X2_become_5 : Cond.static arraycopyName ∈ wsX2_become := List.mem_of_getElem? (i := 5) rfl
theorem mm_X2_become_6 : Cond.initialized "java/lang/System" ∈ wsX2_become := List.mem_of_getElem? (i := 6) rfl
theorem gf_X2_become_22 : GF wsX2_become RX2 22 2 2 := ⟨RX2, TX2, 6, rfl, in_X2_become_X2, by decide, List.mem_of_getElem? (i := 7) rfl⟩
theorem gf_X2_become_30 : GF wsX2_become RX2 30 2 3 := ⟨RX2, TX2, 6, rfl, in_X2_become_X2, by decide, List.mem_of_getElem? (i := 8) rfl⟩
theorem gf_X2_become_34 : GF wsX2_become RX2 34 2 4 := ⟨RX2, TX2, 6, rfl, in_X2_become_X2, by decide, List.mem_of_getElem? (i := 9) rfl⟩
theorem gf_X2_become_37 : GF wsX2_become RX2 37 2 5 := ⟨RX2, TX2, 6, rfl, in_X2_become_X2, by decide, List.mem_of_getElem? (i := 10) rfl⟩
set_option maxRecDepth 100000 in
set_option maxHeartbeats 4000000 in
theorem k_X2_become {g : XC} (C : XOk g cX2_become RX2 wsX2_become rm_X2_become 2) (a_this : Nat) (a_this_table : Nat) (a_this_numbers : Nat) (a_this_images : Nat) (a_this_seen : Nat) (a_this_events : Nat) (a_this_book : Nat) (a_this_table_gaps : Nat) (a_this_seen_cells : Nat) (a_this_events_cells : Nat) (a_this_book_cells : Nat) (a_p1 : Nat) (a_p1_table : Nat) (a_p1_numbers : Nat) (a_p1_images : Nat) (a_p1_seen : Nat) (a_p1_events : Nat) (a_p1_book : Nat) (a_p1_table_gaps : Nat) (a_p1_seen_cells : Nat) (a_p1_events_cells : Nat) (a_p1_book_cells : Nat) (c_this_table_size : Int) (c_this_table_gaps : Nat → Int) (c_this_numbers : Nat → Int) (c_this_images : Nat → Int) (c_this_seen_most : Int) (c_this_seen_held : Int) (c_this_seen_cells : Nat → Int) (c_this_events_most : Int) (c_this_events_held : Int) (c_this_events_cells : Nat → Int) (c_this_book_most : Int) (c_this_book_held : Int) (c_this_book_cells : Nat → Int) (c_p1_table_size : Int) (c_p1_table_gaps : Nat → Int) (c_p1_numbers : Nat → Int) (c_p1_images : Nat → Int) (c_p1_seen_most : Int) (c_p1_seen_held : Int) (c_p1_seen_cells : Nat → Int) (c_p1_events_most : Int) (c_p1_events_held : Int) (c_p1_events_cells : Nat → Int) (c_p1_book_most : Int) (c_p1_book_held : Int) (c_p1_book_cells : Nat → Int)  (K : (Int × (Nat → Int) × (Nat → Int) × (Nat → Int) × Int × (Nat → Int) × Int × (Nat → Int) × Int × (Nat → Int)) → Prop) (hK : ∀ (o0 : Int) (o1 : Nat → Int) (o2 : Nat → Int) (o3 : Nat → Int) (o4 : Int) (o5 : Nat → Int) (o6 : Int) (o7 : Nat → Int) (o8 : Int) (o9 : Nat → Int), K (o0, o1, o2, o3, o4, o5, o6, o7, o8, o9) → FinV g 0 0 (w_X2_become (xG g) a_this a_this_table a_this_numbers a_this_images a_this_seen a_this_events a_this_book a_this_table_gaps a_this_seen_cells a_this_events_cells a_this_book_cells a_p1 a_p1_table a_p1_numbers a_p1_images a_p1_seen a_p1_events a_p1_book a_p1_table_gaps a_p1_seen_cells a_p1_events_cells a_p1_book_cells o0 o1 o2 o3 c_this_seen_most o4 o5 c_this_events_most o6 o7 c_this_book_most o8 o9 c_p1_table_size c_p1_table_gaps c_p1_numbers c_p1_images c_p1_seen_most c_p1_seen_held c_p1_seen_cells c_p1_events_most c_p1_events_held c_p1_events_cells c_p1_book_most c_p1_book_held c_p1_book_cells)) (h : wp (f_X2_become c_this_table_size c_this_table_gaps c_this_numbers c_this_images c_this_seen_most c_this_seen_held c_this_seen_cells c_this_events_most c_this_events_held c_this_events_cells c_this_book_most c_this_book_held c_this_book_cells c_p1_table_size c_p1_table_gaps c_p1_numbers c_p1_images c_p1_seen_held c_p1_seen_cells c_p1_events_held c_p1_events_cells c_p1_book_held c_p1_book_cells) K) : WW g 0 0 (w_X2_become (xG g) a_this a_this_table a_this_numbers a_this_images a_this_seen a_this_events a_this_book a_this_table_gaps a_this_seen_cells a_this_events_cells a_this_book_cells a_p1 a_p1_table a_p1_numbers a_p1_images a_p1_seen a_p1_events a_p1_book a_p1_table_gaps a_p1_seen_cells a_p1_events_cells a_p1_book_cells c_this_table_size c_this_table_gaps c_this_numbers c_this_images c_this_seen_most c_this_seen_held c_this_seen_cells c_this_events_most c_this_events_held c_this_events_cells c_this_book_most c_this_book_held c_this_book_cells c_p1_table_size c_p1_table_gaps c_p1_numbers c_p1_images c_p1_seen_most c_p1_seen_held c_p1_seen_cells c_p1_events_most c_p1_events_held c_p1_events_cells c_p1_book_most c_p1_book_held c_p1_book_cells) 0 [(0, .ref a_this), (1, .ref a_p1)] [] := by
  unfold f_X2_become at h
  refine r_aload_n C (pc := 0) dX2_become_0 rfl 0 rfl ?_
  refine r_get C (pc := 1) dX2_become_1 gf_X2_become_12 0 rfl rfl ?_
  refine r_aload_n C (pc := 4) dX2_become_4 rfl 1 rfl ?_
  refine r_get C (pc := 5) dX2_become_5 gf_X2_become_12 11 rfl rfl ?_
  obtain ⟨this_table_size_8, this_table_gaps_8, e8, h⟩ := wp_b2 h
  refine b_cVv C (pc := 8) dX2_become_8 (c_X4_become (xl g) (xG g) a_this_table a_this_table_gaps a_p1_table a_p1_table_gaps c_this_table_size c_this_table_gaps c_p1_table_size c_p1_table_gaps this_table_size_8 this_table_gaps_8 e8) rfl gX2_become_X4_become ⟨rfl, rfl⟩ 1 hd_X4_become ⟨Nat.le_of_ble_eq_true rfl, Nat.le_of_ble_eq_true rfl⟩ rfl 1 rfl rfl rfl [1, 2, 12, 13] rfl (srt_nd 0 rfl) (ws' := w_X2_become (xG g) a_this a_this_table a_this_numbers a_this_images a_this_seen a_this_events a_this_book a_this_table_gaps a_this_seen_cells a_this_events_cells a_this_book_cells a_p1 a_p1_table a_p1_numbers a_p1_images a_p1_seen a_p1_events a_p1_book a_p1_table_gaps a_p1_seen_cells a_p1_events_cells a_p1_book_cells this_table_size_8 this_table_gaps_8 c_this_numbers c_this_images c_this_seen_most c_this_seen_held c_this_seen_cells c_this_events_most c_this_events_held c_this_events_cells c_this_book_most c_this_book_held c_this_book_cells c_p1_table_size c_p1_table_gaps c_p1_numbers c_p1_images c_p1_seen_most c_p1_seen_held c_p1_seen_cells c_p1_events_most c_p1_events_held c_p1_events_cells c_p1_book_most c_p1_book_held c_p1_book_cells) (Put.m rfl rfl rfl) rfl (rest := []) rfl (Nat.le_of_ble_eq_true rfl) ⟨Nat.zero_le _, Nat.zero_le _⟩ ?_
  refine r_aload_n C (pc := 11) dX2_become_11 rfl 1 rfl ?_
  refine r_get C (pc := 12) dX2_become_12 gf_X2_become_18 11 rfl rfl ?_
  refine r_iconst C (pc := 15) dX2_become_15 ?_
  refine r_aload_n C (pc := 16) dX2_become_16 rfl 0 rfl ?_
  refine r_get C (pc := 17) dX2_become_17 gf_X2_become_18 0 rfl rfl ?_
  refine r_iconst C (pc := 20) dX2_become_20 ?_
  refine r_iconst C (pc := 21) dX2_become_21 ?_
  refine r_copyi C (pc := 22) dX2_become_22 mm_X2_become_3 mm_X2_become_4 mm_X2_become_5 mm_X2_become_6 h 14 3 rfl rfl (Nat.le_of_ble_eq_true rfl) (Nat.le_of_ble_eq_true rfl) (ws' := w_X2_become (xG g) a_this a_this_table a_this_numbers a_this_images a_this_seen a_this_events a_this_book a_this_table_gaps a_this_seen_cells a_this_events_cells a_this_book_cells a_p1 a_p1_table a_p1_numbers a_p1_images a_p1_seen a_p1_events a_p1_book a_p1_table_gaps a_p1_seen_cells a_p1_events_cells a_p1_book_cells this_table_size_8 this_table_gaps_8 (va_cpy c_p1_numbers c_this_numbers (ix 0) (ix 0) (ix 5)) c_this_images c_this_seen_most c_this_seen_held c_this_seen_cells c_this_events_most c_this_events_held c_this_events_cells c_this_book_most c_this_book_held c_this_book_cells c_p1_table_size c_p1_table_gaps c_p1_numbers c_p1_images c_p1_seen_most c_p1_seen_held c_p1_seen_cells c_p1_events_most c_p1_events_held c_p1_events_cells c_p1_book_most c_p1_book_held c_p1_book_cells) rfl (fun h => ?_)
  refine r_aload_n C (pc := 25) dX2_become_25 rfl 1 rfl ?_
  refine r_get C (pc := 26) dX2_become_26 gf_X2_become_22 11 rfl rfl ?_
  refine r_iconst C (pc := 29) dX2_become_29 ?_
  refine r_aload_n C (pc := 30) dX2_become_30 rfl 0 rfl ?_
  refine r_get C (pc := 31) dX2_become_31 gf_X2_become_22 0 rfl rfl ?_
  refine r_iconst C (pc := 34) dX2_become_34 ?_
  refine r_iconst C (pc := 35) dX2_become_35 ?_
  refine r_copyi C (pc := 36) dX2_become_36 mm_X2_become_3 mm_X2_become_4 mm_X2_become_5 mm_X2_become_6 h 15 4 rfl rfl (Nat.le_of_ble_eq_true rfl) (Nat.le_of_ble_eq_true rfl) (ws' := w_X2_become (xG g) a_this a_this_table a_this_numbers a_this_images a_this_seen a_this_events a_this_book a_this_table_gaps a_this_seen_cells a_this_events_cells a_this_book_cells a_p1 a_p1_table a_p1_numbers a_p1_images a_p1_seen a_p1_events a_p1_book a_p1_table_gaps a_p1_seen_cells a_p1_events_cells a_p1_book_cells this_table_size_8 this_table_gaps_8 (va_cpy c_p1_numbers c_this_numbers (ix 0) (ix 0) (ix 5)) (va_cpy c_p1_images c_this_images (ix 0) (ix 0) (ix 5)) c_this_seen_most c_this_seen_held c_this_seen_cells c_this_events_most c_this_events_held c_this_events_cells c_this_book_most c_this_book_held c_this_book_cells c_p1_table_size c_p1_table_gaps c_p1_numbers c_p1_images c_p1_seen_most c_p1_seen_held c_p1_seen_cells c_p1_events_most c_p1_events_held c_p1_events_cells c_p1_book_most c_p1_book_held c_p1_book_cells) rfl (fun h => ?_)
  refine r_aload_n C (pc := 39) dX2_become_39 rfl 0 rfl ?_
  refine r_get C (pc := 40) dX2_become_40 gf_X2_become_30 0 rfl rfl ?_
  refine r_aload_n C (pc := 43) dX2_become_43 rfl 1 rfl ?_
  refine r_get C (pc := 44) dX2_become_44 gf_X2_become_30 11 rfl rfl ?_
  obtain ⟨this_seen_held_47, this_seen_cells_47, e47, h⟩ := wp_b2 h
  refine b_cVv C (pc := 47) dX2_become_47 (c_X1_become (xl g) (xG g) a_this_seen a_this_seen_cells a_p1_seen a_p1_seen_cells 12 12 c_this_seen_most c_this_seen_held c_this_seen_cells c_p1_seen_most c_p1_seen_held c_p1_seen_cells this_seen_held_47 this_seen_cells_47 e47) rfl gX2_become_X1_become ⟨rfl, rfl⟩ 1 hd_X1_become ⟨Nat.le_of_ble_eq_true rfl, Nat.le_of_ble_eq_true rfl⟩ rfl 5 rfl rfl rfl [5, 6, 16, 17] rfl (srt_nd 0 rfl) (ws' := w_X2_become (xG g) a_this a_this_table a_this_numbers a_this_images a_this_seen a_this_events a_this_book a_this_table_gaps a_this_seen_cells a_this_events_cells a_this_book_cells a_p1 a_p1_table a_p1_numbers a_p1_images a_p1_seen a_p1_events a_p1_book a_p1_table_gaps a_p1_seen_cells a_p1_events_cells a_p1_book_cells this_table_size_8 this_table_gaps_8 (va_cpy c_p1_numbers c_this_numbers (ix 0) (ix 0) (ix 5)) (va_cpy c_p1_images c_this_images (ix 0) (ix 0) (ix 5)) c_this_seen_most this_seen_held_47 this_seen_cells_47 c_this_events_most c_this_events_held c_this_events_cells c_this_book_most c_this_book_held c_this_book_cells c_p1_table_size c_p1_table_gaps c_p1_numbers c_p1_images c_p1_seen_most c_p1_seen_held c_p1_seen_cells c_p1_events_most c_p1_events_held c_p1_events_cells c_p1_book_most c_p1_book_held c_p1_book_cells) (Put.m rfl rfl rfl) rfl (rest := []) rfl (Nat.le_of_ble_eq_true rfl) ⟨Nat.zero_le _, Nat.zero_le _⟩ ?_
  refine r_aload_n C (pc := 50) dX2_become_50 rfl 0 rfl ?_
  refine r_get C (pc := 51) dX2_become_51 gf_X2_become_34 0 rfl rfl ?_
  refine r_aload_n C (pc := 54) dX2_become_54 rfl 1 rfl ?_
  refine r_get C (pc := 55) dX2_become_55 gf_X2_become_34 11 rfl rfl ?_
  obtain ⟨this_events_held_58, this_events_cells_58, e58, h⟩ := wp_b2 h
  refine b_cVv C (pc := 58) dX2_become_58 (c_X1_become (xl g) (xG g) a_this_events a_this_events_cells a_p1_events a_p1_events_cells 24 24 c_this_events_most c_this_events_held c_this_events_cells c_p1_events_most c_p1_events_held c_p1_events_cells this_events_held_58 this_events_cells_58 e58) rfl gX2_become_X1_become ⟨rfl, rfl⟩ 1 hd_X1_become ⟨Nat.le_of_ble_eq_true rfl, Nat.le_of_ble_eq_true rfl⟩ rfl 7 rfl rfl rfl [7, 8, 18, 19] rfl (srt_nd 0 rfl) (ws' := w_X2_become (xG g) a_this a_this_table a_this_numbers a_this_images a_this_seen a_this_events a_this_book a_this_table_gaps a_this_seen_cells a_this_events_cells a_this_book_cells a_p1 a_p1_table a_p1_numbers a_p1_images a_p1_seen a_p1_events a_p1_book a_p1_table_gaps a_p1_seen_cells a_p1_events_cells a_p1_book_cells this_table_size_8 this_table_gaps_8 (va_cpy c_p1_numbers c_this_numbers (ix 0) (ix 0) (ix 5)) (va_cpy c_p1_images c_this_images (ix 0) (ix 0) (ix 5)) c_this_seen_most this_seen_held_47 this_seen_cells_47 c_this_events_most this_events_held_58 this_events_cells_58 c_this_book_most c_this_book_held c_this_book_cells c_p1_table_size c_p1_table_gaps c_p1_numbers c_p1_images c_p1_seen_most c_p1_seen_held c_p1_seen_cells c_p1_events_most c_p1_events_held c_p1_events_cells c_p1_book_most c_p1_book_held c_p1_book_cells) (Put.m rfl rfl rfl) rfl (rest := []) rfl (Nat.le_of_ble_eq_true rfl) ⟨Nat.zero_le _, Nat.zero_le _⟩ ?_
  refine r_aload_n C (pc := 61) dX2_become_61 rfl 0 rfl ?_
  refine r_get C (pc := 62) dX2_become_62 gf_X2_become_37 0 rfl rfl ?_
  refine r_aload_n C (pc := 65) dX2_become_65 rfl 1 rfl ?_
  refine r_get C (pc := 66) dX2_become_66 gf_X2_become_37 11 rfl rfl ?_
  obtain ⟨this_book_held_69, this_book_cells_69, e69, h⟩ := wp_b2 h
  refine b_cVv C (pc := 69) dX2_become_69 (c_X1_become (xl g) (xG g) a_this_book a_this_book_cells a_p1_book a_p1_book_cells 24 24 c_this_book_most c_this_book_held c_this_book_cells c_p1_book_most c_p1_book_held c_p1_book_cells this_book_held_69 this_book_cells_69 e69) rfl gX2_become_X1_become ⟨rfl, rfl⟩ 1 hd_X1_become ⟨Nat.le_of_ble_eq_true rfl, Nat.le_of_ble_eq_true rfl⟩ rfl 9 rfl rfl rfl [9, 10, 20, 21] rfl (srt_nd 0 rfl) (ws' := w_X2_become (xG g) a_this a_this_table a_this_numbers a_this_images a_this_seen a_this_events a_this_book a_this_table_gaps a_this_seen_cells a_this_events_cells a_this_book_cells a_p1 a_p1_table a_p1_numbers a_p1_images a_p1_seen a_p1_events a_p1_book a_p1_table_gaps a_p1_seen_cells a_p1_events_cells a_p1_book_cells this_table_size_8 this_table_gaps_8 (va_cpy c_p1_numbers c_this_numbers (ix 0) (ix 0) (ix 5)) (va_cpy c_p1_images c_this_images (ix 0) (ix 0) (ix 5)) c_this_seen_most this_seen_held_47 this_seen_cells_47 c_this_events_most this_events_held_58 this_events_cells_58 c_this_book_most this_book_held_69 this_book_cells_69 c_p1_table_size c_p1_table_gaps c_p1_numbers c_p1_images c_p1_seen_most c_p1_seen_held c_p1_seen_cells c_p1_events_most c_p1_events_held c_p1_events_cells c_p1_book_most c_p1_book_held c_p1_book_cells) (Put.m rfl rfl rfl) rfl (rest := []) rfl (Nat.le_of_ble_eq_true rfl) ⟨Nat.zero_le _, Nat.zero_le _⟩ ?_
  exact r_vret C (pc := 72) dX2_become_72 (hK this_table_size_8 this_table_gaps_8 (va_cpy c_p1_numbers c_this_numbers (ix 0) (ix 0) (ix 5)) (va_cpy c_p1_images c_this_images (ix 0) (ix 0) (ix 5)) this_seen_held_47 this_seen_cells_47 this_events_held_58 this_events_cells_58 this_book_held_69 this_book_cells_69 (wp_s h))
theorem c_X2_become (l : Launch) (G : gG) (a_this : Nat) (a_this_table : Nat) (a_this_numbers : Nat) (a_this_images : Nat) (a_this_seen : Nat) (a_this_events : Nat) (a_this_book : Nat) (a_this_table_gaps : Nat) (a_this_seen_cells : Nat) (a_this_events_cells : Nat) (a_this_book_cells : Nat) (a_p1 : Nat) (a_p1_table : Nat) (a_p1_numbers : Nat) (a_p1_images : Nat) (a_p1_seen : Nat) (a_p1_events : Nat) (a_p1_book : Nat) (a_p1_table_gaps : Nat) (a_p1_seen_cells : Nat) (a_p1_events_cells : Nat) (a_p1_book_cells : Nat) (c_this_table_size : Int) (c_this_table_gaps : Nat → Int) (c_this_numbers : Nat → Int) (c_this_images : Nat → Int) (c_this_seen_most : Int) (c_this_seen_held : Int) (c_this_seen_cells : Nat → Int) (c_this_events_most : Int) (c_this_events_held : Int) (c_this_events_cells : Nat → Int) (c_this_book_most : Int) (c_this_book_held : Int) (c_this_book_cells : Nat → Int) (c_p1_table_size : Int) (c_p1_table_gaps : Nat → Int) (c_p1_numbers : Nat → Int) (c_p1_images : Nat → Int) (c_p1_seen_most : Int) (c_p1_seen_held : Int) (c_p1_seen_cells : Nat → Int) (c_p1_events_most : Int) (c_p1_events_held : Int) (c_p1_events_cells : Nat → Int) (c_p1_book_most : Int) (c_p1_book_held : Int) (c_p1_book_cells : Nat → Int) (o0 : Int) (o1 : Nat → Int) (o2 : Nat → Int) (o3 : Nat → Int) (o4 : Int) (o5 : Nat → Int) (o6 : Int) (o7 : Nat → Int) (o8 : Int) (o9 : Nat → Int) (hf : f_X2_become c_this_table_size c_this_table_gaps c_this_numbers c_this_images c_this_seen_most c_this_seen_held c_this_seen_cells c_this_events_most c_this_events_held c_this_events_cells c_this_book_most c_this_book_held c_this_book_cells c_p1_table_size c_p1_table_gaps c_p1_numbers c_p1_images c_p1_seen_held c_p1_seen_cells c_p1_events_held c_p1_events_cells c_p1_book_held c_p1_book_cells = some (o0, o1, o2, o3, o4, o5, o6, o7, o8, o9)) : CTv l yX2_become wsX2_become rm_X2_become G (w_X2_become G a_this a_this_table a_this_numbers a_this_images a_this_seen a_this_events a_this_book a_this_table_gaps a_this_seen_cells a_this_events_cells a_this_book_cells a_p1 a_p1_table a_p1_numbers a_p1_images a_p1_seen a_p1_events a_p1_book a_p1_table_gaps a_p1_seen_cells a_p1_events_cells a_p1_book_cells c_this_table_size c_this_table_gaps c_this_numbers c_this_images c_this_seen_most c_this_seen_held c_this_seen_cells c_this_events_most c_this_events_held c_this_events_cells c_this_book_most c_this_book_held c_this_book_cells c_p1_table_size c_p1_table_gaps c_p1_numbers c_p1_images c_p1_seen_most c_p1_seen_held c_p1_seen_cells c_p1_events_most c_p1_events_held c_p1_events_cells c_p1_book_most c_p1_book_held c_p1_book_cells) [.ref a_this, .ref a_p1] (w_X2_become G a_this a_this_table a_this_numbers a_this_images a_this_seen a_this_events a_this_book a_this_table_gaps a_this_seen_cells a_this_events_cells a_this_book_cells a_p1 a_p1_table a_p1_numbers a_p1_images a_p1_seen a_p1_events a_p1_book a_p1_table_gaps a_p1_seen_cells a_p1_events_cells a_p1_book_cells o0 o1 o2 o3 c_this_seen_most o4 o5 c_this_events_most o6 o7 c_this_book_most o8 o9 c_p1_table_size c_p1_table_gaps c_p1_numbers c_p1_images c_p1_seen_most c_p1_seen_held c_p1_seen_cells c_p1_events_most c_p1_events_held c_p1_events_cells c_p1_book_most c_p1_book_held c_p1_book_cells) := CTv_of (by decide) rfl rfl (Nat.le_of_ble_eq_true rfl) (fun g C hG hl hF => by
    subst hG
    subst hl
    exact k_X2_become C a_this a_this_table a_this_numbers a_this_images a_this_seen a_this_events a_this_book a_this_table_gaps a_this_seen_cells a_this_events_cells a_this_book_cells a_p1 a_p1_table a_p1_numbers a_p1_images a_p1_seen a_p1_events a_p1_book a_p1_table_gaps a_p1_seen_cells a_p1_events_cells a_p1_book_cells c_this_table_size c_this_table_gaps c_this_numbers c_this_images c_this_seen_most c_this_seen_held c_this_seen_cells c_this_events_most c_this_events_held c_this_events_cells c_this_book_most c_this_book_held c_this_book_cells c_p1_table_size c_p1_table_gaps c_p1_numbers c_p1_images c_p1_seen_most c_p1_seen_held c_p1_seen_cells c_p1_events_most c_p1_events_held c_p1_events_cells c_p1_book_most c_p1_book_held c_p1_book_cells (fun x => x = (o0, o1, o2, o3, o4, o5, o6, o7, o8, o9)) (fun o0' o1' o2' o3' o4' o5' o6' o7' o8' o9' e => by cases e; exact hF) ⟨_, hf, rfl⟩)

-- TightHulls$Setup.begin(I)Z
def f_X2_begin (p1 : Int) (c_this_table_size : Int) (c_this_table_gaps : Nat → Int) (c_this_numbers : Nat → Int) (c_this_images : Nat → Int) : Option (Int × Int × (Nat → Int) × (Nat → Int) × (Nat → Int)) := jn (some (0, c_this_table_size, c_this_table_gaps, c_this_numbers, c_this_images)) (fun (k10 : Option (Int × Int × (Nat → Int) × (Nat → Int) × (Nat → Int))) => if ltI p1 3 = true then k10 else (if ltI 5 p1 = true then k10 else (bd2 (f_X4_spread p1 c_this_table_size c_this_table_gaps) (fun this_table_size_17 this_table_gaps_17 => lq3 (fun (n22 : Int → (Nat → Int) → (Nat → Int) → Option (Int × Int × (Nat → Int) × (Nat → Int) × (Nat → Int))) (v2_22 : Int) (this_numbers_22 : Nat → Int) (this_images_22 : Nat → Int) => if ltI v2_22 5 = true then (grd (iin v2_22 5) (grd (iin v2_22 5) (n22 (v2_22 + 1) (up this_numbers_22 (ix v2_22) 0) (up this_images_22 (ix v2_22) v2_22)))) else (some (1, this_table_size_17, this_table_gaps_17, this_numbers_22, this_images_22))) 300 0 c_this_numbers c_this_images))))
abbrev rm_X2_begin : Room := { frames := 3, cells := 0, slots := 0, locals := 83 }
abbrev w_X2_begin (G : gG) (a_this : Nat) (a_this_table : Nat) (a_this_numbers : Nat) (a_this_images : Nat) (a_this_seen : Nat) (a_this_events : Nat) (a_this_book : Nat) (a_this_table_gaps : Nat) (c_this_table_size : Int) (c_this_table_gaps : Nat → Int) (c_this_numbers : Nat → Int) (c_this_images : Nat → Int) : va_W := [(a_this, .inr (2, [.ref a_this_table, .ref a_this_numbers, .ref a_this_images, .ref a_this_seen, .ref a_this_events, .ref a_this_book])), (a_this_table, .inr (4, [.int (jz c_this_table_size), .ref a_this_table_gaps])), (a_this_table_gaps, aI G 25 c_this_table_gaps), (a_this_numbers, aI G 5 c_this_numbers), (a_this_images, aI G 5 c_this_images)]
theorem hd_X2_begin : yX2_begin.cls = RX2 ∧ yX2_begin.cls ≠ "java/lang/invoke/MethodHandle" ∧ yX2_begin.cls ≠ "java/lang/invoke/VarHandle" ∧ (parseMethodDescriptor yX2_begin.desc).map (fun d => d.parameters.length) = some 1 := by decide +kernel
theorem in_X2_begin_X2 : ∀ w ∈ u_ws RX2 TX2 6, w ∈ wsX2_begin := fun w h => List.mem_cons_of_mem _ (List.mem_append_left _ (List.mem_append_right _ (h)))
theorem gf_X2_begin_12 : GF wsX2_begin RX2 12 2 0 := ⟨RX2, TX2, 6, rfl, in_X2_begin_X2, by decide, List.mem_of_getElem? (i := 1) rfl⟩
theorem gf_X2_begin_18 : GF wsX2_begin RX2 18 2 1 := ⟨RX2, TX2, 6, rfl, in_X2_begin_X2, by decide, List.mem_of_getElem? (i := 2) rfl⟩
theorem gf_X2_begin_22 : GF wsX2_begin RX2 22 2 2 := ⟨RX2, TX2, 6, rfl, in_X2_begin_X2, by decide, List.mem_of_getElem? (i := 3) rfl⟩
set_option maxRecDepth 100000 in
set_option maxHeartbeats 4000000 in
theorem k_X2_begin {g : XC} (C : XOk g cX2_begin RX2 wsX2_begin rm_X2_begin 3) (a_this : Nat) (a_this_table : Nat) (a_this_numbers : Nat) (a_this_images : Nat) (a_this_seen : Nat) (a_this_events : Nat) (a_this_book : Nat) (a_this_table_gaps : Nat) (c_this_table_size : Int) (c_this_table_gaps : Nat → Int) (c_this_numbers : Nat → Int) (c_this_images : Nat → Int) (p1 : Int) (K : (Int × Int × (Nat → Int) × (Nat → Int) × (Nat → Int)) → Prop) (hK : ∀ (r : Int) (o0 : Int) (o1 : Nat → Int) (o2 : Nat → Int) (o3 : Nat → Int), K (r, o0, o1, o2, o3) → (narrow .boolean (.int (jz r)) = .int (jz r) → FinI g 0 0 (w_X2_begin (xG g) a_this a_this_table a_this_numbers a_this_images a_this_seen a_this_events a_this_book a_this_table_gaps o0 o1 o2 o3) (jz r))) (h : wp (f_X2_begin p1 c_this_table_size c_this_table_gaps c_this_numbers c_this_images) K) : WW g 0 0 (w_X2_begin (xG g) a_this a_this_table a_this_numbers a_this_images a_this_seen a_this_events a_this_book a_this_table_gaps c_this_table_size c_this_table_gaps c_this_numbers c_this_images) 0 [(0, .ref a_this), (1, .int (jz p1))] [] := by
  unfold f_X2_begin at h
  refine r_iload_n C (pc := 0) dX2_begin_0 rfl 1 rfl ?_
  refine r_iconst C (pc := 1) dX2_begin_1 ?_
  refine jn_e (fun (k10 : Option (Int × Int × (Nat → Int) × (Nat → Int) × (Nat → Int))) => wp (k10) K → WW g 0 0 (w_X2_begin (xG g) a_this a_this_table a_this_numbers a_this_images a_this_seen a_this_events a_this_book a_this_table_gaps c_this_table_size c_this_table_gaps c_this_numbers c_this_images) 10 [] []) h (fun h => ?_) (fun k10 hk10 h => ?_)
  · refine r_iconst C (pc := 10) dX2_begin_10 ?_
    exact r_iret C (pc := 11) dX2_begin_11 (hK 0 c_this_table_size c_this_table_gaps c_this_numbers c_this_images (wp_s h) (nB rfl).1)
  · refine r_icmp_lt C (pc := 2) 10 dX2_begin_2 rfl h (fun c2 h => ?_) (fun c2 h => ?_)
    · refine r_sub [] rfl ?_
      exact hk10 h
    · refine r_iload_n C (pc := 5) dX2_begin_5 rfl 1 rfl ?_
      refine r_iconst C (pc := 6) dX2_begin_6 ?_
      refine r_icmp_le C (pc := 7) 12 dX2_begin_7 rfl h (fun c7 h => ?_) (fun c7 h => ?_)
      · refine r_aload_n C (pc := 12) dX2_begin_12 rfl 0 rfl ?_
        refine r_get C (pc := 13) dX2_begin_13 gf_X2_begin_12 0 rfl rfl ?_
        refine r_iload_n C (pc := 16) dX2_begin_16 rfl 1 rfl ?_
        obtain ⟨this_table_size_17, this_table_gaps_17, e17, h⟩ := wp_b2 h
        refine b_cVv C (pc := 17) dX2_begin_17 (c_X4_spread (xl g) (xG g) a_this_table a_this_table_gaps c_this_table_size c_this_table_gaps p1 this_table_size_17 this_table_gaps_17 e17) rfl gX2_begin_X4_spread ⟨rfl, rfl⟩ 1 hd_X4_spread ⟨Nat.le_of_ble_eq_true rfl, Nat.le_of_ble_eq_true rfl⟩ rfl 1 rfl rfl rfl [1, 2] rfl (srt_nd 0 rfl) (ws' := w_X2_begin (xG g) a_this a_this_table a_this_numbers a_this_images a_this_seen a_this_events a_this_book a_this_table_gaps this_table_size_17 this_table_gaps_17 c_this_numbers c_this_images) (Put.m rfl rfl rfl) rfl (rest := []) rfl (Nat.le_of_ble_eq_true rfl) ⟨Nat.zero_le _, Nat.zero_le _⟩ ?_
        refine r_iconst C (pc := 20) dX2_begin_20 ?_
        refine r_istore_n C (pc := 21) dX2_begin_21 rfl (by decide) (L' := [(0, .ref a_this), (1, .int (jz p1)), (2, .int (jz 0))]) rfl ?_
        refine r_sub [0, 2] rfl ?_
        refine lq3_e (fun (v2_22 : Int) (this_numbers_22 : Nat → Int) (this_images_22 : Nat → Int) => WW g 0 0 (w_X2_begin (xG g) a_this a_this_table a_this_numbers a_this_images a_this_seen a_this_events a_this_book a_this_table_gaps this_table_size_17 this_table_gaps_17 this_numbers_22 this_images_22) 22 [(0, .ref a_this), (2, .int (jz v2_22))] []) h (fun n22 hn22 v2_22 this_numbers_22 this_images_22 h => ?_)
        refine r_iload_n C (pc := 22) dX2_begin_22 rfl 1 rfl ?_
        refine r_iconst C (pc := 23) dX2_begin_23 ?_
        refine r_icmp_ge C (pc := 24) 47 dX2_begin_24 rfl h (fun c24 h => ?_) (fun c24 h => ?_)
        · refine r_iconst C (pc := 47) dX2_begin_47 ?_
          exact r_iret C (pc := 48) dX2_begin_48 (hK 1 this_table_size_17 this_table_gaps_17 this_numbers_22 this_images_22 (wp_s h) (nB rfl).1)
        · refine r_aload_n C (pc := 27) dX2_begin_27 rfl 0 rfl ?_
          refine r_get C (pc := 28) dX2_begin_28 gf_X2_begin_18 0 rfl rfl ?_
          refine r_iload_n C (pc := 31) dX2_begin_31 rfl 1 rfl ?_
          refine r_iconst C (pc := 32) dX2_begin_32 ?_
          refine r_iast C (pc := 33) dX2_begin_33 h 3 rfl (ws' := w_X2_begin (xG g) a_this a_this_table a_this_numbers a_this_images a_this_seen a_this_events a_this_book a_this_table_gaps this_table_size_17 this_table_gaps_17 (up this_numbers_22 (ix v2_22) 0) this_images_22) rfl (fun h => ?_)
          refine r_aload_n C (pc := 34) dX2_begin_34 rfl 0 rfl ?_
          refine r_get C (pc := 35) dX2_begin_35 gf_X2_begin_22 0 rfl rfl ?_
          refine r_iload_n C (pc := 38) dX2_begin_38 rfl 1 rfl ?_
          refine r_iload_n C (pc := 39) dX2_begin_39 rfl 1 rfl ?_
          refine r_iast C (pc := 40) dX2_begin_40 h 4 rfl (ws' := w_X2_begin (xG g) a_this a_this_table a_this_numbers a_this_images a_this_seen a_this_events a_this_book a_this_table_gaps this_table_size_17 this_table_gaps_17 (up this_numbers_22 (ix v2_22) 0) (up this_images_22 (ix v2_22) v2_22)) rfl (fun h => ?_)
          refine r_iinc C (pc := 41) dX2_begin_41 1 rfl (by decide) (L' := [(0, .ref a_this), (2, .int (jz (v2_22 + 1)))]) rfl ?_
          refine r_goto C (pc := 44) 22 dX2_begin_44 rfl ?_
          exact hn22 (v2_22 + 1) (up this_numbers_22 (ix v2_22) 0) (up this_images_22 (ix v2_22) v2_22) h
      · refine r_sub [] rfl ?_
        exact hk10 h
theorem c_X2_begin (l : Launch) (G : gG) (a_this : Nat) (a_this_table : Nat) (a_this_numbers : Nat) (a_this_images : Nat) (a_this_seen : Nat) (a_this_events : Nat) (a_this_book : Nat) (a_this_table_gaps : Nat) (c_this_table_size : Int) (c_this_table_gaps : Nat → Int) (c_this_numbers : Nat → Int) (c_this_images : Nat → Int) (p1 : Int) (r : Int) (o0 : Int) (o1 : Nat → Int) (o2 : Nat → Int) (o3 : Nat → Int) (hf : f_X2_begin p1 c_this_table_size c_this_table_gaps c_this_numbers c_this_images = some (r, o0, o1, o2, o3)) : CTi l yX2_begin wsX2_begin rm_X2_begin G (w_X2_begin G a_this a_this_table a_this_numbers a_this_images a_this_seen a_this_events a_this_book a_this_table_gaps c_this_table_size c_this_table_gaps c_this_numbers c_this_images) [.ref a_this, .int (jz p1)] (jz r) (w_X2_begin G a_this a_this_table a_this_numbers a_this_images a_this_seen a_this_events a_this_book a_this_table_gaps o0 o1 o2 o3) := CTi_of (by decide) rfl rfl (Nat.le_of_ble_eq_true rfl) (fun g C hG hl hF => by
    subst hG
    subst hl
    exact k_X2_begin C a_this a_this_table a_this_numbers a_this_images a_this_seen a_this_events a_this_book a_this_table_gaps c_this_table_size c_this_table_gaps c_this_numbers c_this_images p1 (fun x => x = (r, o0, o1, o2, o3)) (fun r' o0' o1' o2' o3' e => by cases e; exact hF) ⟨_, hf, rfl⟩)

-- TightHulls$Setup.place(III)Z
def f_X2_place (p1 : Int) (p2 : Int) (p3 : Int) (c_this_table_size : Int) (c_this_table_gaps : Nat → Int) : Option (Int × (Nat → Int)) := bd1 (f_X4_areTwo p1 p2 c_this_table_size) (fun r6 => jn (some (0, c_this_table_gaps)) (fun (k22 : Option (Int × (Nat → Int))) => if eqI r6 0 = true then k22 else (if ltI p3 0 = true then k22 else (if ltI 40 p3 = true then k22 else (bd1 (f_X4_put p1 p2 p3 c_this_table_size c_this_table_gaps) (fun this_table_gaps_31 => some (1, this_table_gaps_31)))))))
abbrev rm_X2_place : Room := { frames := 2, cells := 0, slots := 0, locals := 45 }
abbrev w_X2_place (G : gG) (a_this : Nat) (a_this_table : Nat) (a_this_numbers : Nat) (a_this_images : Nat) (a_this_seen : Nat) (a_this_events : Nat) (a_this_book : Nat) (a_this_table_gaps : Nat) (c_this_table_size : Int) (c_this_table_gaps : Nat → Int) : va_W := [(a_this, .inr (2, [.ref a_this_table, .ref a_this_numbers, .ref a_this_images, .ref a_this_seen, .ref a_this_events, .ref a_this_book])), (a_this_table, .inr (4, [.int (jz c_this_table_size), .ref a_this_table_gaps])), (a_this_table_gaps, aI G 25 c_this_table_gaps)]
theorem hd_X2_place : yX2_place.cls = RX2 ∧ yX2_place.cls ≠ "java/lang/invoke/MethodHandle" ∧ yX2_place.cls ≠ "java/lang/invoke/VarHandle" ∧ (parseMethodDescriptor yX2_place.desc).map (fun d => d.parameters.length) = some 3 := by decide +kernel
theorem in_X2_place_X2 : ∀ w ∈ u_ws RX2 TX2 6, w ∈ wsX2_place := fun w h => List.mem_cons_of_mem _ (List.mem_append_left _ (List.mem_append_right _ (h)))
theorem gf_X2_place_12 : GF wsX2_place RX2 12 2 0 := ⟨RX2, TX2, 6, rfl, in_X2_place_X2, by decide, List.mem_of_getElem? (i := 1) rfl⟩
set_option maxRecDepth 100000 in
set_option maxHeartbeats 4000000 in
theorem k_X2_place {g : XC} (C : XOk g cX2_place RX2 wsX2_place rm_X2_place 4) (a_this : Nat) (a_this_table : Nat) (a_this_numbers : Nat) (a_this_images : Nat) (a_this_seen : Nat) (a_this_events : Nat) (a_this_book : Nat) (a_this_table_gaps : Nat) (c_this_table_size : Int) (c_this_table_gaps : Nat → Int) (p1 : Int) (p2 : Int) (p3 : Int) (K : (Int × (Nat → Int)) → Prop) (hK : ∀ (r : Int) (o0 : Nat → Int), K (r, o0) → (narrow .boolean (.int (jz r)) = .int (jz r) → FinI g 0 0 (w_X2_place (xG g) a_this a_this_table a_this_numbers a_this_images a_this_seen a_this_events a_this_book a_this_table_gaps c_this_table_size o0) (jz r))) (h : wp (f_X2_place p1 p2 p3 c_this_table_size c_this_table_gaps) K) : WW g 0 0 (w_X2_place (xG g) a_this a_this_table a_this_numbers a_this_images a_this_seen a_this_events a_this_book a_this_table_gaps c_this_table_size c_this_table_gaps) 0 [(0, .ref a_this), (1, .int (jz p1)), (2, .int (jz p2)), (3, .int (jz p3))] [] := by
  unfold f_X2_place at h
  refine r_aload_n C (pc := 0) dX2_place_0 rfl 0 rfl ?_
  refine r_get C (pc := 1) dX2_place_1 gf_X2_place_12 0 rfl rfl ?_
  refine r_iload_n C (pc := 4) dX2_place_4 rfl 1 rfl ?_
  refine r_iload_n C (pc := 5) dX2_place_5 rfl 2 rfl ?_
  obtain ⟨r6, e6, h⟩ := wp_b1 h
  refine b_cVi C (pc := 6) dX2_place_6 (c_X4_areTwo (xl g) (xG g) a_this_table a_this_table_gaps c_this_table_size p1 p2 r6 e6) rfl gX2_place_X4_areTwo ⟨rfl, rfl⟩ 2 hd_X4_areTwo ⟨Nat.le_of_ble_eq_true rfl, Nat.le_of_ble_eq_true rfl⟩ rfl 1 rfl rfl rfl [1] rfl (srt_nd 0 rfl) (ws' := w_X2_place (xG g) a_this a_this_table a_this_numbers a_this_images a_this_seen a_this_events a_this_book a_this_table_gaps c_this_table_size c_this_table_gaps) (Put.m rfl rfl rfl) rfl (rest := []) rfl (Nat.le_of_ble_eq_true rfl) ⟨Nat.zero_le _, Nat.zero_le _⟩ ?_
  refine jn_e (fun (k22 : Option (Int × (Nat → Int))) => wp (k22) K → WW g 0 0 (w_X2_place (xG g) a_this a_this_table a_this_numbers a_this_images a_this_seen a_this_events a_this_book a_this_table_gaps c_this_table_size c_this_table_gaps) 22 [] []) h (fun h => ?_) (fun k22 hk22 h => ?_)
  · refine r_iconst C (pc := 22) dX2_place_22 ?_
    exact r_iret C (pc := 23) dX2_place_23 (hK 0 c_this_table_gaps (wp_s h) (nB rfl).1)
  · refine r_if_eq C (pc := 9) 22 dX2_place_9 rfl h (fun c9 h => ?_) (fun c9 h => ?_)
    · refine r_sub [] rfl ?_
      exact hk22 h
    · refine r_iload_n C (pc := 12) dX2_place_12 rfl 3 rfl ?_
      refine r_if_lt C (pc := 13) 22 dX2_place_13 rfl h (fun c13 h => ?_) (fun c13 h => ?_)
      · refine r_sub [] rfl ?_
        exact hk22 h
      · refine r_iload_n C (pc := 16) dX2_place_16 rfl 3 rfl ?_
        refine r_bipush C (pc := 17) dX2_place_17 rfl ?_
        refine r_icmp_le C (pc := 19) 24 dX2_place_19 rfl h (fun c19 h => ?_) (fun c19 h => ?_)
        · refine r_aload_n C (pc := 24) dX2_place_24 rfl 0 rfl ?_
          refine r_get C (pc := 25) dX2_place_25 gf_X2_place_12 0 rfl rfl ?_
          refine r_iload_n C (pc := 28) dX2_place_28 rfl 1 rfl ?_
          refine r_iload_n C (pc := 29) dX2_place_29 rfl 2 rfl ?_
          refine r_iload_n C (pc := 30) dX2_place_30 rfl 3 rfl ?_
          obtain ⟨this_table_gaps_31, e31, h⟩ := wp_b1 h
          refine b_cVv C (pc := 31) dX2_place_31 (c_X4_put (xl g) (xG g) a_this_table a_this_table_gaps c_this_table_size c_this_table_gaps p1 p2 p3 this_table_gaps_31 e31) rfl gX2_place_X4_put ⟨rfl, rfl⟩ 3 hd_X4_put ⟨Nat.le_of_ble_eq_true rfl, Nat.le_of_ble_eq_true rfl⟩ rfl 1 rfl rfl rfl [1, 2] rfl (srt_nd 0 rfl) (ws' := w_X2_place (xG g) a_this a_this_table a_this_numbers a_this_images a_this_seen a_this_events a_this_book a_this_table_gaps c_this_table_size this_table_gaps_31) (Put.m rfl rfl rfl) rfl (rest := []) rfl (Nat.le_of_ble_eq_true rfl) ⟨Nat.zero_le _, Nat.zero_le _⟩ ?_
          refine r_iconst C (pc := 34) dX2_place_34 ?_
          exact r_iret C (pc := 35) dX2_place_35 (hK 1 this_table_gaps_31 (wp_s h) (nB rfl).1)
        · refine r_sub [] rfl ?_
          exact hk22 h
theorem c_X2_place (l : Launch) (G : gG) (a_this : Nat) (a_this_table : Nat) (a_this_numbers : Nat) (a_this_images : Nat) (a_this_seen : Nat) (a_this_events : Nat) (a_this_book : Nat) (a_this_table_gaps : Nat) (c_this_table_size : Int) (c_this_table_gaps : Nat → Int) (p1 : Int) (p2 : Int) (p3 : Int) (r : Int) (o0 : Nat → Int) (hf : f_X2_place p1 p2 p3 c_this_table_size c_this_table_gaps = some (r, o0)) : CTi l yX2_place wsX2_place rm_X2_place G (w_X2_place G a_this a_this_table a_this_numbers a_this_images a_this_seen a_this_events a_this_book a_this_table_gaps c_this_table_size c_this_table_gaps) [.ref a_this, .int (jz p1), .int (jz p2), .int (jz p3)] (jz r) (w_X2_place G a_this a_this_table a_this_numbers a_this_images a_this_seen a_this_events a_this_book a_this_table_gaps c_this_table_size o0) := CTi_of (by decide) rfl rfl (Nat.le_of_ble_eq_true rfl) (fun g C hG hl hF => by
    subst hG
    subst hl
    exact k_X2_place C a_this a_this_table a_this_numbers a_this_images a_this_seen a_this_events a_this_book a_this_table_gaps c_this_table_size c_this_table_gaps p1 p2 p3 (fun x => x = (r, o0)) (fun r' o0' e => by cases e; exact hF) ⟨_, hf, rfl⟩)

-- TightHulls$Setup.setApart(II)Z
def f_X2_setApart (p1 : Int) (p2 : Int) (c_this_table_size : Int) (c_this_table_gaps : Nat → Int) : Option (Int × (Nat → Int)) := if ltI p1 (shlI 1 c_this_table_size) = true then (lq2 (fun (n17 : Int → (Nat → Int) → Option (Int × (Nat → Int))) (v3_17 : Int) (this_table_gaps_17 : Nat → Int) => if ltI v3_17 c_this_table_size = true then (lv ((v3_17 + 1)) (fun x31 => lq2 (fun (n33 : Int → (Nat → Int) → Option (Int × (Nat → Int))) (v4_33 : Int) (this_table_gaps_33 : Nat → Int) => if ltI v4_33 c_this_table_size = true then (jn (fun (this_table_gaps_86 : Nat → Int) => n33 (v4_33 + 1) this_table_gaps_86) (fun (k86 : (Nat → Int) → Option (Int × (Nat → Int))) => if eqI (andI (shrI p1 v3_17) 1) (andI (shrI p1 v4_33) 1) = true then (k86 this_table_gaps_33) else (bd1 (f_X4_gap v3_17 v4_33 c_this_table_size this_table_gaps_33) (fun r75 => bd1 (f_X4_put v3_17 v4_33 (minI 40 (r75 + p2)) c_this_table_size this_table_gaps_33) (fun this_table_gaps_83 => k86 this_table_gaps_83))))) else (n17 (v3_17 + 1) this_table_gaps_33)) 300 x31 this_table_gaps_17)) else (some (1, this_table_gaps_17))) 300 0 c_this_table_gaps) else (some (0, c_this_table_gaps))
abbrev rm_X2_setApart : Room := { frames := 2, cells := 0, slots := 0, locals := 60 }
abbrev w_X2_setApart (G : gG) (a_this : Nat) (a_this_table : Nat) (a_this_numbers : Nat) (a_this_images : Nat) (a_this_seen : Nat) (a_this_events : Nat) (a_this_book : Nat) (a_this_table_gaps : Nat) (c_this_table_size : Int) (c_this_table_gaps : Nat → Int) : va_W := [(a_this, .inr (2, [.ref a_this_table, .ref a_this_numbers, .ref a_this_images, .ref a_this_seen, .ref a_this_events, .ref a_this_book])), (a_this_table, .inr (4, [.int (jz c_this_table_size), .ref a_this_table_gaps])), (a_this_table_gaps, aI G 25 c_this_table_gaps)]
theorem hd_X2_setApart : yX2_setApart.cls = RX2 ∧ yX2_setApart.cls ≠ "java/lang/invoke/MethodHandle" ∧ yX2_setApart.cls ≠ "java/lang/invoke/VarHandle" ∧ (parseMethodDescriptor yX2_setApart.desc).map (fun d => d.parameters.length) = some 2 := by decide +kernel
theorem in_X2_setApart_X2 : ∀ w ∈ u_ws RX2 TX2 6, w ∈ wsX2_setApart := fun w h => List.mem_cons_of_mem _ (List.mem_append_left _ (List.mem_append_right _ (h)))
theorem gf_X2_setApart_12 : GF wsX2_setApart RX2 12 2 0 := ⟨RX2, TX2, 6, rfl, in_X2_setApart_X2, by decide, List.mem_of_getElem? (i := 1) rfl⟩
theorem in_X2_setApart_X4 : ∀ w ∈ u_ws RX4 TX4 2, w ∈ wsX2_setApart := fun w h => List.mem_cons_of_mem _ (List.mem_append_right _ (h))
theorem gf_X2_setApart_68 : GF wsX2_setApart RX2 68 4 0 := ⟨RX4, TX4, 2, rfl, in_X2_setApart_X4, by decide, List.mem_of_getElem? (i := 2) rfl⟩
theorem mm_X2_setApart_3 : Cond.methodLink RX2 76 Lib.Math.min.name ∈ wsX2_setApart := List.mem_of_getElem? (i := 3) rfl
theorem mm_X2_setApart_4 : Cond.static Lib.Math.min.name ∈ wsX2_setApart := List.mem_of_getElem? (i := 4) rfl
theorem mm_X2_setApart_5 : Cond.initialized "java/lang/Math" ∈ wsX2_setApart := List.mem_of_getElem? (i := 5) rfl
theorem mm_X2_setApart_6 : Cond.code Lib.Math.min.name Lib.Math.min.code 2 (some .int) ∈ wsX2_setApart := List.mem_of_getElem? (i := 6) rfl
set_option maxRecDepth 100000 in
set_option maxHeartbeats 4000000 in
theorem k_X2_setApart {g : XC} (C : XOk g cX2_setApart RX2 wsX2_setApart rm_X2_setApart 5) (a_this : Nat) (a_this_table : Nat) (a_this_numbers : Nat) (a_this_images : Nat) (a_this_seen : Nat) (a_this_events : Nat) (a_this_book : Nat) (a_this_table_gaps : Nat) (c_this_table_size : Int) (c_this_table_gaps : Nat → Int) (p1 : Int) (p2 : Int) (K : (Int × (Nat → Int)) → Prop) (hK : ∀ (r : Int) (o0 : Nat → Int), K (r, o0) → (narrow .boolean (.int (jz r)) = .int (jz r) → FinI g 0 0 (w_X2_setApart (xG g) a_this a_this_table a_this_numbers a_this_images a_this_seen a_this_events a_this_book a_this_table_gaps c_this_table_size o0) (jz r))) (h : wp (f_X2_setApart p1 p2 c_this_table_size c_this_table_gaps) K) : WW g 0 0 (w_X2_setApart (xG g) a_this a_this_table a_this_numbers a_this_images a_this_seen a_this_events a_this_book a_this_table_gaps c_this_table_size c_this_table_gaps) 0 [(0, .ref a_this), (1, .int (jz p1)), (2, .int (jz p2))] [] := by
  unfold f_X2_setApart at h
  refine r_iload_n C (pc := 0) dX2_setApart_0 rfl 1 rfl ?_
  refine r_iconst C (pc := 1) dX2_setApart_1 ?_
  refine r_aload_n C (pc := 2) dX2_setApart_2 rfl 0 rfl ?_
  refine r_get C (pc := 3) dX2_setApart_3 gf_X2_setApart_12 0 rfl rfl ?_
  refine r_get C (pc := 6) dX2_setApart_6 gf_X2_setApart_68 1 rfl rfl ?_
  refine r_ishl C (pc := 9) dX2_setApart_9 ?_
  refine r_icmp_lt C (pc := 10) 15 dX2_setApart_10 rfl h (fun c10 h => ?_) (fun c10 h => ?_)
  · refine r_iconst C (pc := 15) dX2_setApart_15 ?_
    refine r_istore_n C (pc := 16) dX2_setApart_16 rfl (by decide) (L' := [(0, .ref a_this), (1, .int (jz p1)), (2, .int (jz p2)), (3, .int (jz 0))]) rfl ?_
    refine lq2_e (fun (v3_17 : Int) (this_table_gaps_17 : Nat → Int) => WW g 0 0 (w_X2_setApart (xG g) a_this a_this_table a_this_numbers a_this_images a_this_seen a_this_events a_this_book a_this_table_gaps c_this_table_size this_table_gaps_17) 17 [(0, .ref a_this), (1, .int (jz p1)), (2, .int (jz p2)), (3, .int (jz v3_17))] []) h (fun n17 hn17 v3_17 this_table_gaps_17 h => ?_)
    refine r_iload_n C (pc := 17) dX2_setApart_17 rfl 3 rfl ?_
    refine r_aload_n C (pc := 18) dX2_setApart_18 rfl 0 rfl ?_
    refine r_get C (pc := 19) dX2_setApart_19 gf_X2_setApart_12 0 rfl rfl ?_
    refine r_get C (pc := 22) dX2_setApart_22 gf_X2_setApart_68 1 rfl rfl ?_
    refine r_icmp_ge C (pc := 25) 98 dX2_setApart_25 rfl h (fun c25 h => ?_) (fun c25 h => ?_)
    · refine r_iconst C (pc := 98) dX2_setApart_98 ?_
      exact r_iret C (pc := 99) dX2_setApart_99 (hK 1 this_table_gaps_17 (wp_s h) (nB rfl).1)
    · refine r_iload_n C (pc := 28) dX2_setApart_28 rfl 3 rfl ?_
      refine r_iconst C (pc := 29) dX2_setApart_29 ?_
      refine r_iadd C (pc := 30) dX2_setApart_30 ?_
      refine r_let h (fun x31 h => ?_)
      refine r_istore C (pc := 31) dX2_setApart_31 (by decide) (L' := [(0, .ref a_this), (1, .int (jz p1)), (2, .int (jz p2)), (3, .int (jz v3_17)), (4, .int (jz x31))]) rfl ?_
      refine lq2_e (fun (v4_33 : Int) (this_table_gaps_33 : Nat → Int) => WW g 0 0 (w_X2_setApart (xG g) a_this a_this_table a_this_numbers a_this_images a_this_seen a_this_events a_this_book a_this_table_gaps c_this_table_size this_table_gaps_33) 33 [(0, .ref a_this), (1, .int (jz p1)), (2, .int (jz p2)), (3, .int (jz v3_17)), (4, .int (jz v4_33))] []) h (fun n33 hn33 v4_33 this_table_gaps_33 h => ?_)
      refine r_iload C (pc := 33) dX2_setApart_33 4 rfl ?_
      refine r_aload_n C (pc := 35) dX2_setApart_35 rfl 0 rfl ?_
      refine r_get C (pc := 36) dX2_setApart_36 gf_X2_setApart_12 0 rfl rfl ?_
      refine r_get C (pc := 39) dX2_setApart_39 gf_X2_setApart_68 1 rfl rfl ?_
      refine r_icmp_ge C (pc := 42) 92 dX2_setApart_42 rfl h (fun c42 h => ?_) (fun c42 h => ?_)
      · refine r_iinc C (pc := 92) dX2_setApart_92 3 rfl (by decide) (L' := [(0, .ref a_this), (1, .int (jz p1)), (2, .int (jz p2)), (3, .int (jz (v3_17 + 1))), (4, .int (jz v4_33))]) rfl ?_
        refine r_goto C (pc := 95) 17 dX2_setApart_95 rfl ?_
        refine r_sub [0, 1, 2, 3] rfl ?_
        exact hn17 (v3_17 + 1) this_table_gaps_33 h
      · refine r_iload_n C (pc := 45) dX2_setApart_45 rfl 1 rfl ?_
        refine r_iload_n C (pc := 46) dX2_setApart_46 rfl 3 rfl ?_
        refine r_ishr C (pc := 47) dX2_setApart_47 ?_
        refine r_iconst C (pc := 48) dX2_setApart_48 ?_
        refine r_iand C (pc := 49) dX2_setApart_49 ?_
        refine r_iload_n C (pc := 50) dX2_setApart_50 rfl 1 rfl ?_
        refine r_iload C (pc := 51) dX2_setApart_51 4 rfl ?_
        refine r_ishr C (pc := 53) dX2_setApart_53 ?_
        refine r_iconst C (pc := 54) dX2_setApart_54 ?_
        refine r_iand C (pc := 55) dX2_setApart_55 ?_
        refine jn_e (fun (k86 : (Nat → Int) → Option (Int × (Nat → Int))) => ∀ (this_table_gaps_86 : Nat → Int), wp (k86 this_table_gaps_86) K → WW g 0 0 (w_X2_setApart (xG g) a_this a_this_table a_this_numbers a_this_images a_this_seen a_this_events a_this_book a_this_table_gaps c_this_table_size this_table_gaps_86) 86 [(0, .ref a_this), (1, .int (jz p1)), (2, .int (jz p2)), (3, .int (jz v3_17)), (4, .int (jz v4_33))] []) h (fun this_table_gaps_86 h => ?_) (fun k86 hk86 h => ?_)
        · refine r_iinc C (pc := 86) dX2_setApart_86 4 rfl (by decide) (L' := [(0, .ref a_this), (1, .int (jz p1)), (2, .int (jz p2)), (3, .int (jz v3_17)), (4, .int (jz (v4_33 + 1)))]) rfl ?_
          refine r_goto C (pc := 89) 33 dX2_setApart_89 rfl ?_
          exact hn33 (v4_33 + 1) this_table_gaps_86 h
        · refine r_icmp_eq C (pc := 56) 86 dX2_setApart_56 rfl h (fun c56 h => ?_) (fun c56 h => ?_)
          · exact hk86 this_table_gaps_33 h
          · refine r_aload_n C (pc := 59) dX2_setApart_59 rfl 0 rfl ?_
            refine r_get C (pc := 60) dX2_setApart_60 gf_X2_setApart_12 0 rfl rfl ?_
            refine r_iload_n C (pc := 63) dX2_setApart_63 rfl 3 rfl ?_
            refine r_iload C (pc := 64) dX2_setApart_64 4 rfl ?_
            refine r_bipush C (pc := 66) dX2_setApart_66 rfl ?_
            refine r_aload_n C (pc := 68) dX2_setApart_68 rfl 0 rfl ?_
            refine r_get C (pc := 69) dX2_setApart_69 gf_X2_setApart_12 0 rfl rfl ?_
            refine r_iload_n C (pc := 72) dX2_setApart_72 rfl 3 rfl ?_
            refine r_iload C (pc := 73) dX2_setApart_73 4 rfl ?_
            obtain ⟨r75, e75, h⟩ := wp_b1 h
            refine b_cVi C (pc := 75) dX2_setApart_75 (c_X4_gap (xl g) (xG g) a_this_table a_this_table_gaps c_this_table_size this_table_gaps_33 v3_17 v4_33 r75 e75) rfl gX2_setApart_X4_gap ⟨rfl, rfl⟩ 2 hd_X4_gap ⟨Nat.le_of_ble_eq_true rfl, Nat.le_of_ble_eq_true rfl⟩ rfl 1 rfl rfl rfl [1, 2] rfl (srt_nd 0 rfl) (ws' := w_X2_setApart (xG g) a_this a_this_table a_this_numbers a_this_images a_this_seen a_this_events a_this_book a_this_table_gaps c_this_table_size this_table_gaps_33) (Put.m rfl rfl rfl) rfl (rest := [.int (jz 40), .int (jz v4_33), .int (jz v3_17), .ref a_this_table]) rfl (Nat.le_of_ble_eq_true rfl) ⟨Nat.zero_le _, Nat.zero_le _⟩ ?_
            refine r_iload_n C (pc := 78) dX2_setApart_78 rfl 2 rfl ?_
            refine r_iadd C (pc := 79) dX2_setApart_79 ?_
            refine r_mmin C (pc := 80) dX2_setApart_80 mm_X2_setApart_3 mm_X2_setApart_4 mm_X2_setApart_5 mm_X2_setApart_6 (Nat.le_of_ble_eq_true rfl) (Nat.le_of_ble_eq_true rfl) ⟨Nat.zero_le _, Nat.zero_le _⟩ ?_
            obtain ⟨this_table_gaps_83, e83, h⟩ := wp_b1 h
            refine b_cVv C (pc := 83) dX2_setApart_83 (c_X4_put (xl g) (xG g) a_this_table a_this_table_gaps c_this_table_size this_table_gaps_33 v3_17 v4_33 (minI 40 (r75 + p2)) this_table_gaps_83 e83) rfl gX2_setApart_X4_put ⟨rfl, rfl⟩ 3 hd_X4_put ⟨Nat.le_of_ble_eq_true rfl, Nat.le_of_ble_eq_true rfl⟩ rfl 1 rfl rfl rfl [1, 2] rfl (srt_nd 0 rfl) (ws' := w_X2_setApart (xG g) a_this a_this_table a_this_numbers a_this_images a_this_seen a_this_events a_this_book a_this_table_gaps c_this_table_size this_table_gaps_83) (Put.m rfl rfl rfl) rfl (rest := []) rfl (Nat.le_of_ble_eq_true rfl) ⟨Nat.zero_le _, Nat.zero_le _⟩ ?_
            exact hk86 this_table_gaps_83 h
  · refine r_iconst C (pc := 13) dX2_setApart_13 ?_
    exact r_iret C (pc := 14) dX2_setApart_14 (hK 0 c_this_table_gaps (wp_s h) (nB rfl).1)
theorem c_X2_setApart (l : Launch) (G : gG) (a_this : Nat) (a_this_table : Nat) (a_this_numbers : Nat) (a_this_images : Nat) (a_this_seen : Nat) (a_this_events : Nat) (a_this_book : Nat) (a_this_table_gaps : Nat) (c_this_table_size : Int) (c_this_table_gaps : Nat → Int) (p1 : Int) (p2 : Int) (r : Int) (o0 : Nat → Int) (hf : f_X2_setApart p1 p2 c_this_table_size c_this_table_gaps = some (r, o0)) : CTi l yX2_setApart wsX2_setApart rm_X2_setApart G (w_X2_setApart G a_this a_this_table a_this_numbers a_this_images a_this_seen a_this_events a_this_book a_this_table_gaps c_this_table_size c_this_table_gaps) [.ref a_this, .int (jz p1), .int (jz p2)] (jz r) (w_X2_setApart G a_this a_this_table a_this_numbers a_this_images a_this_seen a_this_events a_this_book a_this_table_gaps c_this_table_size o0) := CTi_of (by decide) rfl rfl (Nat.le_of_ble_eq_true rfl) (fun g C hG hl hF => by
    subst hG
    subst hl
    exact k_X2_setApart C a_this a_this_table a_this_numbers a_this_images a_this_seen a_this_events a_this_book a_this_table_gaps c_this_table_size c_this_table_gaps p1 p2 (fun x => x = (r, o0)) (fun r' o0' e => by cases e; exact hF) ⟨_, hf, rfl⟩)

-- TightHulls$Setup.multiply(I)V
def f_X2_multiply (p1 : Int) (c_this_table_size : Int) (c_this_table_gaps : Nat → Int) : Option (Nat → Int) := lq2 (fun (n2 : Int → (Nat → Int) → Option (Nat → Int)) (v2_2 : Int) (this_table_gaps_2 : Nat → Int) => if ltI v2_2 c_this_table_size = true then (lv ((v2_2 + 1)) (fun x16 => lq2 (fun (n17 : Int → (Nat → Int) → Option (Nat → Int)) (v3_17 : Int) (this_table_gaps_17 : Nat → Int) => if ltI v3_17 c_this_table_size = true then (bd1 (f_X4_gap v2_2 v3_17 c_this_table_size this_table_gaps_17) (fun r42 => bd1 (f_X4_put v2_2 v3_17 (minI 40 (r42 * p1)) c_this_table_size this_table_gaps_17) (fun this_table_gaps_50 => n17 (v3_17 + 1) this_table_gaps_50))) else (n2 (v2_2 + 1) this_table_gaps_17)) 300 x16 this_table_gaps_2)) else (some this_table_gaps_2)) 300 0 c_this_table_gaps
abbrev rm_X2_multiply : Room := { frames := 2, cells := 0, slots := 0, locals := 60 }
abbrev w_X2_multiply (G : gG) (a_this : Nat) (a_this_table : Nat) (a_this_numbers : Nat) (a_this_images : Nat) (a_this_seen : Nat) (a_this_events : Nat) (a_this_book : Nat) (a_this_table_gaps : Nat) (c_this_table_size : Int) (c_this_table_gaps : Nat → Int) : va_W := [(a_this, .inr (2, [.ref a_this_table, .ref a_this_numbers, .ref a_this_images, .ref a_this_seen, .ref a_this_events, .ref a_this_book])), (a_this_table, .inr (4, [.int (jz c_this_table_size), .ref a_this_table_gaps])), (a_this_table_gaps, aI G 25 c_this_table_gaps)]
theorem hd_X2_multiply : yX2_multiply.cls = RX2 ∧ yX2_multiply.cls ≠ "java/lang/invoke/MethodHandle" ∧ yX2_multiply.cls ≠ "java/lang/invoke/VarHandle" ∧ (parseMethodDescriptor yX2_multiply.desc).map (fun d => d.parameters.length) = some 1 := by decide +kernel
theorem in_X2_multiply_X2 : ∀ w ∈ u_ws RX2 TX2 6, w ∈ wsX2_multiply := fun w h => List.mem_cons_of_mem _ (List.mem_append_left _ (List.mem_append_right _ (h)))
theorem gf_X2_multiply_12 : GF wsX2_multiply RX2 12 2 0 := ⟨RX2, TX2, 6, rfl, in_X2_multiply_X2, by decide, List.mem_of_getElem? (i := 1) rfl⟩
theorem in_X2_multiply_X4 : ∀ w ∈ u_ws RX4 TX4 2, w ∈ wsX2_multiply := fun w h => List.mem_cons_of_mem _ (List.mem_append_right _ (h))
theorem gf_X2_multiply_68 : GF wsX2_multiply RX2 68 4 0 := ⟨RX4, TX4, 2, rfl, in_X2_multiply_X4, by decide, List.mem_of_getElem? (i := 2) rfl⟩
theorem mm_X2_multiply_3 : Cond.methodLink RX2 76 Lib.Math.min.name ∈ wsX2_multiply := List.mem_of_getElem? (i := 3) rfl
theorem mm_X2_multiply_4 : Cond.static Lib.Math.min.name ∈ wsX2_multiply := List.mem_of_getElem? (i := 4) rfl
theorem mm_X2_multiply_5 : Cond.initialized "java/lang/Math" ∈ wsX2_multiply := List.mem_of_getElem? (i := 5) rfl
theorem mm_X2_multiply_6 : Cond.code Lib.Math.min.name Lib.Math.min.code 2 (some .int) ∈ wsX2_multiply := List.mem_of_getElem? (i := 6) rfl
set_option maxRecDepth 100000 in
set_option maxHeartbeats 4000000 in
theorem k_X2_multiply {g : XC} (C : XOk g cX2_multiply RX2 wsX2_multiply rm_X2_multiply 4) (a_this : Nat) (a_this_table : Nat) (a_this_numbers : Nat) (a_this_images : Nat) (a_this_seen : Nat) (a_this_events : Nat) (a_this_book : Nat) (a_this_table_gaps : Nat) (c_this_table_size : Int) (c_this_table_gaps : Nat → Int) (p1 : Int) (K : (Nat → Int) → Prop) (hK : ∀ (o0 : Nat → Int), K o0 → FinV g 0 0 (w_X2_multiply (xG g) a_this a_this_table a_this_numbers a_this_images a_this_seen a_this_events a_this_book a_this_table_gaps c_this_table_size o0)) (h : wp (f_X2_multiply p1 c_this_table_size c_this_table_gaps) K) : WW g 0 0 (w_X2_multiply (xG g) a_this a_this_table a_this_numbers a_this_images a_this_seen a_this_events a_this_book a_this_table_gaps c_this_table_size c_this_table_gaps) 0 [(0, .ref a_this), (1, .int (jz p1))] [] := by
  unfold f_X2_multiply at h
  refine r_iconst C (pc := 0) dX2_multiply_0 ?_
  refine r_istore_n C (pc := 1) dX2_multiply_1 rfl (by decide) (L' := [(0, .ref a_this), (1, .int (jz p1)), (2, .int (jz 0))]) rfl ?_
  refine lq2_e (fun (v2_2 : Int) (this_table_gaps_2 : Nat → Int) => WW g 0 0 (w_X2_multiply (xG g) a_this a_this_table a_this_numbers a_this_images a_this_seen a_this_events a_this_book a_this_table_gaps c_this_table_size this_table_gaps_2) 2 [(0, .ref a_this), (1, .int (jz p1)), (2, .int (jz v2_2))] []) h (fun n2 hn2 v2_2 this_table_gaps_2 h => ?_)
  refine r_iload_n C (pc := 2) dX2_multiply_2 rfl 2 rfl ?_
  refine r_aload_n C (pc := 3) dX2_multiply_3 rfl 0 rfl ?_
  refine r_get C (pc := 4) dX2_multiply_4 gf_X2_multiply_12 0 rfl rfl ?_
  refine r_get C (pc := 7) dX2_multiply_7 gf_X2_multiply_68 1 rfl rfl ?_
  refine r_icmp_ge C (pc := 10) 65 dX2_multiply_10 rfl h (fun c10 h => ?_) (fun c10 h => ?_)
  · exact r_vret C (pc := 65) dX2_multiply_65 (hK this_table_gaps_2 (wp_s h))
  · refine r_iload_n C (pc := 13) dX2_multiply_13 rfl 2 rfl ?_
    refine r_iconst C (pc := 14) dX2_multiply_14 ?_
    refine r_iadd C (pc := 15) dX2_multiply_15 ?_
    refine r_let h (fun x16 h => ?_)
    refine r_istore_n C (pc := 16) dX2_multiply_16 rfl (by decide) (L' := [(0, .ref a_this), (1, .int (jz p1)), (2, .int (jz v2_2)), (3, .int (jz x16))]) rfl ?_
    refine lq2_e (fun (v3_17 : Int) (this_table_gaps_17 : Nat → Int) => WW g 0 0 (w_X2_multiply (xG g) a_this a_this_table a_this_numbers a_this_images a_this_seen a_this_events a_this_book a_this_table_gaps c_this_table_size this_table_gaps_17) 17 [(0, .ref a_this), (1, .int (jz p1)), (2, .int (jz v2_2)), (3, .int (jz v3_17))] []) h (fun n17 hn17 v3_17 this_table_gaps_17 h => ?_)
    refine r_iload_n C (pc := 17) dX2_multiply_17 rfl 3 rfl ?_
    refine r_aload_n C (pc := 18) dX2_multiply_18 rfl 0 rfl ?_
    refine r_get C (pc := 19) dX2_multiply_19 gf_X2_multiply_12 0 rfl rfl ?_
    refine r_get C (pc := 22) dX2_multiply_22 gf_X2_multiply_68 1 rfl rfl ?_
    refine r_icmp_ge C (pc := 25) 59 dX2_multiply_25 rfl h (fun c25 h => ?_) (fun c25 h => ?_)
    · refine r_iinc C (pc := 59) dX2_multiply_59 2 rfl (by decide) (L' := [(0, .ref a_this), (1, .int (jz p1)), (2, .int (jz (v2_2 + 1))), (3, .int (jz v3_17))]) rfl ?_
      refine r_goto C (pc := 62) 2 dX2_multiply_62 rfl ?_
      refine r_sub [0, 1, 2] rfl ?_
      exact hn2 (v2_2 + 1) this_table_gaps_17 h
    · refine r_aload_n C (pc := 28) dX2_multiply_28 rfl 0 rfl ?_
      refine r_get C (pc := 29) dX2_multiply_29 gf_X2_multiply_12 0 rfl rfl ?_
      refine r_iload_n C (pc := 32) dX2_multiply_32 rfl 2 rfl ?_
      refine r_iload_n C (pc := 33) dX2_multiply_33 rfl 3 rfl ?_
      refine r_bipush C (pc := 34) dX2_multiply_34 rfl ?_
      refine r_aload_n C (pc := 36) dX2_multiply_36 rfl 0 rfl ?_
      refine r_get C (pc := 37) dX2_multiply_37 gf_X2_multiply_12 0 rfl rfl ?_
      refine r_iload_n C (pc := 40) dX2_multiply_40 rfl 2 rfl ?_
      refine r_iload_n C (pc := 41) dX2_multiply_41 rfl 3 rfl ?_
      obtain ⟨r42, e42, h⟩ := wp_b1 h
      refine b_cVi C (pc := 42) dX2_multiply_42 (c_X4_gap (xl g) (xG g) a_this_table a_this_table_gaps c_this_table_size this_table_gaps_17 v2_2 v3_17 r42 e42) rfl gX2_multiply_X4_gap ⟨rfl, rfl⟩ 2 hd_X4_gap ⟨Nat.le_of_ble_eq_true rfl, Nat.le_of_ble_eq_true rfl⟩ rfl 1 rfl rfl rfl [1, 2] rfl (srt_nd 0 rfl) (ws' := w_X2_multiply (xG g) a_this a_this_table a_this_numbers a_this_images a_this_seen a_this_events a_this_book a_this_table_gaps c_this_table_size this_table_gaps_17) (Put.m rfl rfl rfl) rfl (rest := [.int (jz 40), .int (jz v3_17), .int (jz v2_2), .ref a_this_table]) rfl (Nat.le_of_ble_eq_true rfl) ⟨Nat.zero_le _, Nat.zero_le _⟩ ?_
      refine r_iload_n C (pc := 45) dX2_multiply_45 rfl 1 rfl ?_
      refine r_imul C (pc := 46) dX2_multiply_46 ?_
      refine r_mmin C (pc := 47) dX2_multiply_47 mm_X2_multiply_3 mm_X2_multiply_4 mm_X2_multiply_5 mm_X2_multiply_6 (Nat.le_of_ble_eq_true rfl) (Nat.le_of_ble_eq_true rfl) ⟨Nat.zero_le _, Nat.zero_le _⟩ ?_
      obtain ⟨this_table_gaps_50, e50, h⟩ := wp_b1 h
      refine b_cVv C (pc := 50) dX2_multiply_50 (c_X4_put (xl g) (xG g) a_this_table a_this_table_gaps c_this_table_size this_table_gaps_17 v2_2 v3_17 (minI 40 (r42 * p1)) this_table_gaps_50 e50) rfl gX2_multiply_X4_put ⟨rfl, rfl⟩ 3 hd_X4_put ⟨Nat.le_of_ble_eq_true rfl, Nat.le_of_ble_eq_true rfl⟩ rfl 1 rfl rfl rfl [1, 2] rfl (srt_nd 0 rfl) (ws' := w_X2_multiply (xG g) a_this a_this_table a_this_numbers a_this_images a_this_seen a_this_events a_this_book a_this_table_gaps c_this_table_size this_table_gaps_50) (Put.m rfl rfl rfl) rfl (rest := []) rfl (Nat.le_of_ble_eq_true rfl) ⟨Nat.zero_le _, Nat.zero_le _⟩ ?_
      refine r_iinc C (pc := 53) dX2_multiply_53 3 rfl (by decide) (L' := [(0, .ref a_this), (1, .int (jz p1)), (2, .int (jz v2_2)), (3, .int (jz (v3_17 + 1)))]) rfl ?_
      refine r_goto C (pc := 56) 17 dX2_multiply_56 rfl ?_
      exact hn17 (v3_17 + 1) this_table_gaps_50 h
theorem c_X2_multiply (l : Launch) (G : gG) (a_this : Nat) (a_this_table : Nat) (a_this_numbers : Nat) (a_this_images : Nat) (a_this_seen : Nat) (a_this_events : Nat) (a_this_book : Nat) (a_this_table_gaps : Nat) (c_this_table_size : Int) (c_this_table_gaps : Nat → Int) (p1 : Int) (o0 : Nat → Int) (hf : f_X2_multiply p1 c_this_table_size c_this_table_gaps = some o0) : CTv l yX2_multiply wsX2_multiply rm_X2_multiply G (w_X2_multiply G a_this a_this_table a_this_numbers a_this_images a_this_seen a_this_events a_this_book a_this_table_gaps c_this_table_size c_this_table_gaps) [.ref a_this, .int (jz p1)] (w_X2_multiply G a_this a_this_table a_this_numbers a_this_images a_this_seen a_this_events a_this_book a_this_table_gaps c_this_table_size o0) := CTv_of (by decide) rfl rfl (Nat.le_of_ble_eq_true rfl) (fun g C hG hl hF => by
    subst hG
    subst hl
    exact k_X2_multiply C a_this a_this_table a_this_numbers a_this_images a_this_seen a_this_events a_this_book a_this_table_gaps c_this_table_size c_this_table_gaps p1 (fun x => x = o0) (fun o0' e => by cases e; exact hF) ⟨_, hf, rfl⟩)

-- TightHulls$Setup.becomes(II)I
def f_X2_becomes (p1 : Int) (p2 : Int) (c_this_numbers : Nat → Int) : Option (Int × (Nat → Int)) := grd (iin p1 5) (jn (fun (s0_15 : Int) => grd (iin p1 5) (some (s0_15, (up c_this_numbers (ix p1) p2)))) (fun (k15 : Int → Option (Int × (Nat → Int))) => if eqI (c_this_numbers (ix p1)) p2 = true then (k15 0) else (k15 1)))
abbrev rm_X2_becomes : Room := { frames := 0, cells := 0, slots := 0, locals := 0 }
abbrev w_X2_becomes (G : gG) (a_this : Nat) (a_this_table : Nat) (a_this_numbers : Nat) (a_this_images : Nat) (a_this_seen : Nat) (a_this_events : Nat) (a_this_book : Nat) (c_this_numbers : Nat → Int) : va_W := [(a_this, .inr (2, [.ref a_this_table, .ref a_this_numbers, .ref a_this_images, .ref a_this_seen, .ref a_this_events, .ref a_this_book])), (a_this_numbers, aI G 5 c_this_numbers)]
theorem hd_X2_becomes : yX2_becomes.cls = RX2 ∧ yX2_becomes.cls ≠ "java/lang/invoke/MethodHandle" ∧ yX2_becomes.cls ≠ "java/lang/invoke/VarHandle" ∧ (parseMethodDescriptor yX2_becomes.desc).map (fun d => d.parameters.length) = some 2 := by decide +kernel
theorem in_X2_becomes_X2 : ∀ w ∈ u_ws RX2 TX2 6, w ∈ wsX2_becomes := fun w h => List.mem_cons_of_mem _ (List.mem_append_right _ (h))
theorem gf_X2_becomes_18 : GF wsX2_becomes RX2 18 2 1 := ⟨RX2, TX2, 6, rfl, in_X2_becomes_X2, by decide, List.mem_of_getElem? (i := 1) rfl⟩
set_option maxRecDepth 100000 in
set_option maxHeartbeats 4000000 in
theorem k_X2_becomes {g : XC} (C : XOk g cX2_becomes RX2 wsX2_becomes rm_X2_becomes 4) (a_this : Nat) (a_this_table : Nat) (a_this_numbers : Nat) (a_this_images : Nat) (a_this_seen : Nat) (a_this_events : Nat) (a_this_book : Nat) (c_this_numbers : Nat → Int) (p1 : Int) (p2 : Int) (K : (Int × (Nat → Int)) → Prop) (hK : ∀ (r : Int) (o0 : Nat → Int), K (r, o0) → (narrow .int (.int (jz r)) = .int (jz r) → FinI g 0 0 (w_X2_becomes (xG g) a_this a_this_table a_this_numbers a_this_images a_this_seen a_this_events a_this_book o0) (jz r))) (h : wp (f_X2_becomes p1 p2 c_this_numbers) K) : WW g 0 0 (w_X2_becomes (xG g) a_this a_this_table a_this_numbers a_this_images a_this_seen a_this_events a_this_book c_this_numbers) 0 [(0, .ref a_this), (1, .int (jz p1)), (2, .int (jz p2))] [] := by
  unfold f_X2_becomes at h
  refine r_aload_n C (pc := 0) dX2_becomes_0 rfl 0 rfl ?_
  refine r_get C (pc := 1) dX2_becomes_1 gf_X2_becomes_18 0 rfl rfl ?_
  refine r_iload_n C (pc := 4) dX2_becomes_4 rfl 1 rfl ?_
  refine r_iald C (pc := 5) dX2_becomes_5 h 1 rfl (fun h => ?_)
  refine r_iload_n C (pc := 6) dX2_becomes_6 rfl 2 rfl ?_
  refine jn_e (fun (k15 : Int → Option (Int × (Nat → Int))) => ∀ (s0_15 : Int), wp (k15 s0_15) K → WW g 0 0 (w_X2_becomes (xG g) a_this a_this_table a_this_numbers a_this_images a_this_seen a_this_events a_this_book c_this_numbers) 15 [(0, .ref a_this), (1, .int (jz p1)), (2, .int (jz p2))] [.int (jz s0_15)]) h (fun s0_15 h => ?_) (fun k15 hk15 h => ?_)
  · refine r_istore_n C (pc := 15) dX2_becomes_15 rfl (by decide) (L' := [(0, .ref a_this), (1, .int (jz p1)), (2, .int (jz p2)), (3, .int (jz s0_15))]) rfl ?_
    refine r_aload_n C (pc := 16) dX2_becomes_16 rfl 0 rfl ?_
    refine r_get C (pc := 17) dX2_becomes_17 gf_X2_becomes_18 0 rfl rfl ?_
    refine r_iload_n C (pc := 20) dX2_becomes_20 rfl 1 rfl ?_
    refine r_iload_n C (pc := 21) dX2_becomes_21 rfl 2 rfl ?_
    refine r_iast C (pc := 22) dX2_becomes_22 h 1 rfl (ws' := w_X2_becomes (xG g) a_this a_this_table a_this_numbers a_this_images a_this_seen a_this_events a_this_book (up c_this_numbers (ix p1) p2)) rfl (fun h => ?_)
    refine r_iload_n C (pc := 23) dX2_becomes_23 rfl 3 rfl ?_
    exact r_iret C (pc := 24) dX2_becomes_24 (hK s0_15 (up c_this_numbers (ix p1) p2) (wp_s h) rfl)
  · refine r_icmp_eq C (pc := 7) 14 dX2_becomes_7 rfl h (fun c7 h => ?_) (fun c7 h => ?_)
    · refine r_iconst C (pc := 14) dX2_becomes_14 ?_
      exact hk15 0 h
    · refine r_iconst C (pc := 10) dX2_becomes_10 ?_
      refine r_goto C (pc := 11) 15 dX2_becomes_11 rfl ?_
      exact hk15 1 h
theorem c_X2_becomes (l : Launch) (G : gG) (a_this : Nat) (a_this_table : Nat) (a_this_numbers : Nat) (a_this_images : Nat) (a_this_seen : Nat) (a_this_events : Nat) (a_this_book : Nat) (c_this_numbers : Nat → Int) (p1 : Int) (p2 : Int) (r : Int) (o0 : Nat → Int) (hf : f_X2_becomes p1 p2 c_this_numbers = some (r, o0)) : CTi l yX2_becomes wsX2_becomes rm_X2_becomes G (w_X2_becomes G a_this a_this_table a_this_numbers a_this_images a_this_seen a_this_events a_this_book c_this_numbers) [.ref a_this, .int (jz p1), .int (jz p2)] (jz r) (w_X2_becomes G a_this a_this_table a_this_numbers a_this_images a_this_seen a_this_events a_this_book o0) := CTi_of (by decide) rfl rfl (Nat.le_of_ble_eq_true rfl) (fun g C hG hl hF => by
    subst hG
    subst hl
    exact k_X2_becomes C a_this a_this_table a_this_numbers a_this_images a_this_seen a_this_events a_this_book c_this_numbers p1 p2 (fun x => x = (r, o0)) (fun r' o0' e => by cases e; exact hF) ⟨_, hf, rfl⟩)

-- TightHulls$Setup.makeLeast()I
def f_X2_makeLeast (c_this_table_size : Int) (c_this_table_gaps : Nat → Int) (c_this_numbers : Nat → Int) : Option (Int × (Nat → Int)) := lv (((shlI 1 c_this_table_size) - 1)) (fun x13 => lq3 (fun (n16 : Int → Int → (Nat → Int) → Option (Int × (Nat → Int))) (v1_16 : Int) (v3_16 : Int) (this_numbers_16 : Nat → Int) => if ltI v3_16 c_this_table_size = true then (bd1 (f_X7_needed v3_16 x13 c_this_table_size c_this_table_gaps this_numbers_16) (fun r40 => bd2 (f_X2_becomes v3_16 r40 this_numbers_16) (fun r43 this_numbers_43 => lv ((v1_16 + r43)) (fun x47 => n16 x47 (v3_16 + 1) this_numbers_43)))) else (some (v1_16, this_numbers_16))) 300 0 0 c_this_numbers)
abbrev rm_X2_makeLeast : Room := { frames := 2, cells := 0, slots := 0, locals := 85 }
abbrev w_X2_makeLeast (G : gG) (a_this : Nat) (a_this_table : Nat) (a_this_numbers : Nat) (a_this_images : Nat) (a_this_seen : Nat) (a_this_events : Nat) (a_this_book : Nat) (a_this_table_gaps : Nat) (c_this_table_size : Int) (c_this_table_gaps : Nat → Int) (c_this_numbers : Nat → Int) : va_W := [(a_this, .inr (2, [.ref a_this_table, .ref a_this_numbers, .ref a_this_images, .ref a_this_seen, .ref a_this_events, .ref a_this_book])), (a_this_table, .inr (4, [.int (jz c_this_table_size), .ref a_this_table_gaps])), (a_this_table_gaps, aI G 25 c_this_table_gaps), (a_this_numbers, aI G 5 c_this_numbers)]
theorem hd_X2_makeLeast : yX2_makeLeast.cls = RX2 ∧ yX2_makeLeast.cls ≠ "java/lang/invoke/MethodHandle" ∧ yX2_makeLeast.cls ≠ "java/lang/invoke/VarHandle" ∧ (parseMethodDescriptor yX2_makeLeast.desc).map (fun d => d.parameters.length) = some 0 := by decide +kernel
theorem in_X2_makeLeast_X2 : ∀ w ∈ u_ws RX2 TX2 6, w ∈ wsX2_makeLeast := fun w h => List.mem_cons_of_mem _ (List.mem_append_left _ (List.mem_append_right _ (h)))
theorem gf_X2_makeLeast_12 : GF wsX2_makeLeast RX2 12 2 0 := ⟨RX2, TX2, 6, rfl, in_X2_makeLeast_X2, by decide, List.mem_of_getElem? (i := 1) rfl⟩
theorem in_X2_makeLeast_X4 : ∀ w ∈ u_ws RX4 TX4 2, w ∈ wsX2_makeLeast := fun w h => List.mem_cons_of_mem _ (List.mem_append_right _ (h))
theorem gf_X2_makeLeast_68 : GF wsX2_makeLeast RX2 68 4 0 := ⟨RX4, TX4, 2, rfl, in_X2_makeLeast_X4, by decide, List.mem_of_getElem? (i := 2) rfl⟩
theorem gf_X2_makeLeast_18 : GF wsX2_makeLeast RX2 18 2 1 := ⟨RX2, TX2, 6, rfl, in_X2_makeLeast_X2, by decide, List.mem_of_getElem? (i := 3) rfl⟩
set_option maxRecDepth 100000 in
set_option maxHeartbeats 4000000 in
theorem k_X2_makeLeast {g : XC} (C : XOk g cX2_makeLeast RX2 wsX2_makeLeast rm_X2_makeLeast 4) (a_this : Nat) (a_this_table : Nat) (a_this_numbers : Nat) (a_this_images : Nat) (a_this_seen : Nat) (a_this_events : Nat) (a_this_book : Nat) (a_this_table_gaps : Nat) (c_this_table_size : Int) (c_this_table_gaps : Nat → Int) (c_this_numbers : Nat → Int)  (K : (Int × (Nat → Int)) → Prop) (hK : ∀ (r : Int) (o0 : Nat → Int), K (r, o0) → (narrow .int (.int (jz r)) = .int (jz r) → FinI g 0 0 (w_X2_makeLeast (xG g) a_this a_this_table a_this_numbers a_this_images a_this_seen a_this_events a_this_book a_this_table_gaps c_this_table_size c_this_table_gaps o0) (jz r))) (h : wp (f_X2_makeLeast c_this_table_size c_this_table_gaps c_this_numbers) K) : WW g 0 0 (w_X2_makeLeast (xG g) a_this a_this_table a_this_numbers a_this_images a_this_seen a_this_events a_this_book a_this_table_gaps c_this_table_size c_this_table_gaps c_this_numbers) 0 [(0, .ref a_this)] [] := by
  unfold f_X2_makeLeast at h
  refine r_iconst C (pc := 0) dX2_makeLeast_0 ?_
  refine r_istore_n C (pc := 1) dX2_makeLeast_1 rfl (by decide) (L' := [(0, .ref a_this), (1, .int (jz 0))]) rfl ?_
  refine r_iconst C (pc := 2) dX2_makeLeast_2 ?_
  refine r_aload_n C (pc := 3) dX2_makeLeast_3 rfl 0 rfl ?_
  refine r_get C (pc := 4) dX2_makeLeast_4 gf_X2_makeLeast_12 0 rfl rfl ?_
  refine r_get C (pc := 7) dX2_makeLeast_7 gf_X2_makeLeast_68 1 rfl rfl ?_
  refine r_ishl C (pc := 10) dX2_makeLeast_10 ?_
  refine r_iconst C (pc := 11) dX2_makeLeast_11 ?_
  refine r_isub C (pc := 12) dX2_makeLeast_12 ?_
  refine r_let h (fun x13 h => ?_)
  refine r_istore_n C (pc := 13) dX2_makeLeast_13 rfl (by decide) (L' := [(0, .ref a_this), (1, .int (jz 0)), (2, .int (jz x13))]) rfl ?_
  refine r_iconst C (pc := 14) dX2_makeLeast_14 ?_
  refine r_istore_n C (pc := 15) dX2_makeLeast_15 rfl (by decide) (L' := [(0, .ref a_this), (1, .int (jz 0)), (2, .int (jz x13)), (3, .int (jz 0))]) rfl ?_
  refine lq3_e (fun (v1_16 : Int) (v3_16 : Int) (this_numbers_16 : Nat → Int) => WW g 0 0 (w_X2_makeLeast (xG g) a_this a_this_table a_this_numbers a_this_images a_this_seen a_this_events a_this_book a_this_table_gaps c_this_table_size c_this_table_gaps this_numbers_16) 16 [(0, .ref a_this), (1, .int (jz v1_16)), (2, .int (jz x13)), (3, .int (jz v3_16))] []) h (fun n16 hn16 v1_16 v3_16 this_numbers_16 h => ?_)
  refine r_iload_n C (pc := 16) dX2_makeLeast_16 rfl 3 rfl ?_
  refine r_aload_n C (pc := 17) dX2_makeLeast_17 rfl 0 rfl ?_
  refine r_get C (pc := 18) dX2_makeLeast_18 gf_X2_makeLeast_12 0 rfl rfl ?_
  refine r_get C (pc := 21) dX2_makeLeast_21 gf_X2_makeLeast_68 1 rfl rfl ?_
  refine r_icmp_ge C (pc := 24) 54 dX2_makeLeast_24 rfl h (fun c24 h => ?_) (fun c24 h => ?_)
  · refine r_iload_n C (pc := 54) dX2_makeLeast_54 rfl 1 rfl ?_
    exact r_iret C (pc := 55) dX2_makeLeast_55 (hK v1_16 this_numbers_16 (wp_s h) rfl)
  · refine r_iload_n C (pc := 27) dX2_makeLeast_27 rfl 1 rfl ?_
    refine r_aload_n C (pc := 28) dX2_makeLeast_28 rfl 0 rfl ?_
    refine r_iload_n C (pc := 29) dX2_makeLeast_29 rfl 3 rfl ?_
    refine r_aload_n C (pc := 30) dX2_makeLeast_30 rfl 0 rfl ?_
    refine r_get C (pc := 31) dX2_makeLeast_31 gf_X2_makeLeast_12 0 rfl rfl ?_
    refine r_aload_n C (pc := 34) dX2_makeLeast_34 rfl 0 rfl ?_
    refine r_get C (pc := 35) dX2_makeLeast_35 gf_X2_makeLeast_18 0 rfl rfl ?_
    refine r_iload_n C (pc := 38) dX2_makeLeast_38 rfl 3 rfl ?_
    refine r_iload_n C (pc := 39) dX2_makeLeast_39 rfl 2 rfl ?_
    obtain ⟨r40, e40, h⟩ := wp_b1 h
    refine b_cSi C (pc := 40) dX2_makeLeast_40 (c_X7_needed (xl g) (xG g) a_this_table a_this_table_gaps a_this_numbers c_this_table_size c_this_table_gaps this_numbers_16 v3_16 x13 r40 e40) rfl gX2_makeLeast_X7_needed ⟨rfl, rfl⟩ 4 hd_X7_needed ⟨Nat.le_of_ble_eq_true rfl, Nat.le_of_ble_eq_true rfl⟩ rfl [1, 2, 3] rfl (srt_nd 0 rfl) (ws' := w_X2_makeLeast (xG g) a_this a_this_table a_this_numbers a_this_images a_this_seen a_this_events a_this_book a_this_table_gaps c_this_table_size c_this_table_gaps this_numbers_16) (Put.m rfl rfl rfl) rfl (rest := [.int (jz v3_16), .ref a_this, .int (jz v1_16)]) rfl (Nat.le_of_ble_eq_true rfl) ⟨Nat.zero_le _, Nat.zero_le _⟩ ?_
    obtain ⟨r43, this_numbers_43, e43, h⟩ := wp_b2 h
    refine b_cVi C (pc := 43) dX2_makeLeast_43 (c_X2_becomes (xl g) (xG g) a_this a_this_table a_this_numbers a_this_images a_this_seen a_this_events a_this_book this_numbers_16 v3_16 r40 r43 this_numbers_43 e43) rfl gX2_makeLeast_X2_becomes ⟨rfl, rfl⟩ 2 hd_X2_becomes ⟨Nat.le_of_ble_eq_true rfl, Nat.le_of_ble_eq_true rfl⟩ rfl 0 rfl rfl rfl [0, 3] rfl (srt_nd 0 rfl) (ws' := w_X2_makeLeast (xG g) a_this a_this_table a_this_numbers a_this_images a_this_seen a_this_events a_this_book a_this_table_gaps c_this_table_size c_this_table_gaps this_numbers_43) (Put.m rfl rfl rfl) rfl (rest := [.int (jz v1_16)]) rfl (Nat.le_of_ble_eq_true rfl) ⟨Nat.zero_le _, Nat.zero_le _⟩ ?_
    refine r_iadd C (pc := 46) dX2_makeLeast_46 ?_
    refine r_let h (fun x47 h => ?_)
    refine r_istore_n C (pc := 47) dX2_makeLeast_47 rfl (by decide) (L' := [(0, .ref a_this), (1, .int (jz x47)), (2, .int (jz x13)), (3, .int (jz v3_16))]) rfl ?_
    refine r_iinc C (pc := 48) dX2_makeLeast_48 3 rfl (by decide) (L' := [(0, .ref a_this), (1, .int (jz x47)), (2, .int (jz x13)), (3, .int (jz (v3_16 + 1)))]) rfl ?_
    refine r_goto C (pc := 51) 16 dX2_makeLeast_51 rfl ?_
    exact hn16 x47 (v3_16 + 1) this_numbers_43 h
theorem c_X2_makeLeast (l : Launch) (G : gG) (a_this : Nat) (a_this_table : Nat) (a_this_numbers : Nat) (a_this_images : Nat) (a_this_seen : Nat) (a_this_events : Nat) (a_this_book : Nat) (a_this_table_gaps : Nat) (c_this_table_size : Int) (c_this_table_gaps : Nat → Int) (c_this_numbers : Nat → Int) (r : Int) (o0 : Nat → Int) (hf : f_X2_makeLeast c_this_table_size c_this_table_gaps c_this_numbers = some (r, o0)) : CTi l yX2_makeLeast wsX2_makeLeast rm_X2_makeLeast G (w_X2_makeLeast G a_this a_this_table a_this_numbers a_this_images a_this_seen a_this_events a_this_book a_this_table_gaps c_this_table_size c_this_table_gaps c_this_numbers) [.ref a_this] (jz r) (w_X2_makeLeast G a_this a_this_table a_this_numbers a_this_images a_this_seen a_this_events a_this_book a_this_table_gaps c_this_table_size c_this_table_gaps o0) := CTi_of (by decide) rfl rfl (Nat.le_of_ble_eq_true rfl) (fun g C hG hl hF => by
    subst hG
    subst hl
    exact k_X2_makeLeast C a_this a_this_table a_this_numbers a_this_images a_this_seen a_this_events a_this_book a_this_table_gaps c_this_table_size c_this_table_gaps c_this_numbers (fun x => x = (r, o0)) (fun r' o0' e => by cases e; exact hF) ⟨_, hf, rfl⟩)

-- TightHulls$Setup.takeCorner(LTightHulls$Hull;I)I
def f_X2_takeCorner (p2 : Int) (c_this_table_size : Int) (c_this_numbers : Nat → Int) (c_p1_held : Int) (c_p1_basis_size : Int) (c_p1_keys : Nat → Int64) : Option (Int × (Nat → Int)) := lq3 (fun (n5 : Int → Int → (Nat → Int) → Option (Int × (Nat → Int))) (v3_5 : Int) (v4_5 : Int) (this_numbers_5 : Nat → Int) => if ltI v4_5 c_this_table_size = true then (bd1 (f_X0_number p2 v4_5 c_p1_held c_p1_basis_size c_p1_keys) (fun r25 => bd2 (f_X2_becomes v4_5 r25 this_numbers_5) (fun r28 this_numbers_28 => lv ((v3_5 + r28)) (fun x32 => n5 x32 (v4_5 + 1) this_numbers_28)))) else (some (v3_5, this_numbers_5))) 300 0 0 c_this_numbers
abbrev rm_X2_takeCorner : Room := { frames := 2, cells := 0, slots := 0, locals := 45 }
abbrev w_X2_takeCorner (G : gG) (a_this : Nat) (a_this_table : Nat) (a_this_numbers : Nat) (a_this_images : Nat) (a_this_seen : Nat) (a_this_events : Nat) (a_this_book : Nat) (a_this_table_gaps : Nat) (a_p1 : Nat) (a_p1_basis : Nat) (a_p1_numbers : Nat) (a_p1_keys : Nat) (a_p1_twos : Nat) (a_p1_basis_gaps : Nat) (c_this_table_size : Int) (c_this_numbers : Nat → Int) (c_p1_followed : Int) (c_p1_there : Int) (c_p1_held : Int) (c_p1_basis_size : Int) (c_p1_keys : Nat → Int64) : va_W := [(a_this, .inr (2, [.ref a_this_table, .ref a_this_numbers, .ref a_this_images, .ref a_this_seen, .ref a_this_events, .ref a_this_book])), (a_this_table, .inr (4, [.int (jz c_this_table_size), .ref a_this_table_gaps])), (a_this_numbers, aI G 5 c_this_numbers), (a_p1, .inr (0, [.ref a_p1_basis, .int (jz c_p1_followed), .ref a_p1_numbers, .ref a_p1_keys, .ref a_p1_twos, .int (jz c_p1_there), .int (jz c_p1_held)])), (a_p1_basis, .inr (4, [.int (jz c_p1_basis_size), .ref a_p1_basis_gaps])), (a_p1_keys, aJ G 37 c_p1_keys)]
theorem hd_X2_takeCorner : yX2_takeCorner.cls = RX2 ∧ yX2_takeCorner.cls ≠ "java/lang/invoke/MethodHandle" ∧ yX2_takeCorner.cls ≠ "java/lang/invoke/VarHandle" ∧ (parseMethodDescriptor yX2_takeCorner.desc).map (fun d => d.parameters.length) = some 2 := by decide +kernel
theorem in_X2_takeCorner_X2 : ∀ w ∈ u_ws RX2 TX2 6, w ∈ wsX2_takeCorner := fun w h => List.mem_cons_of_mem _ (List.mem_append_left _ (List.mem_append_left _ (List.mem_append_right _ (h))))
theorem gf_X2_takeCorner_12 : GF wsX2_takeCorner RX2 12 2 0 := ⟨RX2, TX2, 6, rfl, in_X2_takeCorner_X2, by decide, List.mem_of_getElem? (i := 1) rfl⟩
theorem in_X2_takeCorner_X4 : ∀ w ∈ u_ws RX4 TX4 2, w ∈ wsX2_takeCorner := fun w h => List.mem_cons_of_mem _ (List.mem_append_left _ (List.mem_append_right _ (h)))
theorem gf_X2_takeCorner_68 : GF wsX2_takeCorner RX2 68 4 0 := ⟨RX4, TX4, 2, rfl, in_X2_takeCorner_X4, by decide, List.mem_of_getElem? (i := 2) rfl⟩
set_option maxRecDepth 100000 in
set_option maxHeartbeats 4000000 in
theorem k_X2_takeCorner {g : XC} (C : XOk g cX2_takeCorner RX2 wsX2_takeCorner rm_X2_takeCorner 5) (a_this : Nat) (a_this_table : Nat) (a_this_numbers : Nat) (a_this_images : Nat) (a_this_seen : Nat) (a_this_events : Nat) (a_this_book : Nat) (a_this_table_gaps : Nat) (a_p1 : Nat) (a_p1_basis : Nat) (a_p1_numbers : Nat) (a_p1_keys : Nat) (a_p1_twos : Nat) (a_p1_basis_gaps : Nat) (c_this_table_size : Int) (c_this_numbers : Nat → Int) (c_p1_followed : Int) (c_p1_there : Int) (c_p1_held : Int) (c_p1_basis_size : Int) (c_p1_keys : Nat → Int64) (p2 : Int) (K : (Int × (Nat → Int)) → Prop) (hK : ∀ (r : Int) (o0 : Nat → Int), K (r, o0) → (narrow .int (.int (jz r)) = .int (jz r) → FinI g 0 0 (w_X2_takeCorner (xG g) a_this a_this_table a_this_numbers a_this_images a_this_seen a_this_events a_this_book a_this_table_gaps a_p1 a_p1_basis a_p1_numbers a_p1_keys a_p1_twos a_p1_basis_gaps c_this_table_size o0 c_p1_followed c_p1_there c_p1_held c_p1_basis_size c_p1_keys) (jz r))) (h : wp (f_X2_takeCorner p2 c_this_table_size c_this_numbers c_p1_held c_p1_basis_size c_p1_keys) K) : WW g 0 0 (w_X2_takeCorner (xG g) a_this a_this_table a_this_numbers a_this_images a_this_seen a_this_events a_this_book a_this_table_gaps a_p1 a_p1_basis a_p1_numbers a_p1_keys a_p1_twos a_p1_basis_gaps c_this_table_size c_this_numbers c_p1_followed c_p1_there c_p1_held c_p1_basis_size c_p1_keys) 0 [(0, .ref a_this), (1, .ref a_p1), (2, .int (jz p2))] [] := by
  unfold f_X2_takeCorner at h
  refine r_iconst C (pc := 0) dX2_takeCorner_0 ?_
  refine r_istore_n C (pc := 1) dX2_takeCorner_1 rfl (by decide) (L' := [(0, .ref a_this), (1, .ref a_p1), (2, .int (jz p2)), (3, .int (jz 0))]) rfl ?_
  refine r_iconst C (pc := 2) dX2_takeCorner_2 ?_
  refine r_istore C (pc := 3) dX2_takeCorner_3 (by decide) (L' := [(0, .ref a_this), (1, .ref a_p1), (2, .int (jz p2)), (3, .int (jz 0)), (4, .int (jz 0))]) rfl ?_
  refine lq3_e (fun (v3_5 : Int) (v4_5 : Int) (this_numbers_5 : Nat → Int) => WW g 0 0 (w_X2_takeCorner (xG g) a_this a_this_table a_this_numbers a_this_images a_this_seen a_this_events a_this_book a_this_table_gaps a_p1 a_p1_basis a_p1_numbers a_p1_keys a_p1_twos a_p1_basis_gaps c_this_table_size this_numbers_5 c_p1_followed c_p1_there c_p1_held c_p1_basis_size c_p1_keys) 5 [(0, .ref a_this), (1, .ref a_p1), (2, .int (jz p2)), (3, .int (jz v3_5)), (4, .int (jz v4_5))] []) h (fun n5 hn5 v3_5 v4_5 this_numbers_5 h => ?_)
  refine r_iload C (pc := 5) dX2_takeCorner_5 4 rfl ?_
  refine r_aload_n C (pc := 7) dX2_takeCorner_7 rfl 0 rfl ?_
  refine r_get C (pc := 8) dX2_takeCorner_8 gf_X2_takeCorner_12 0 rfl rfl ?_
  refine r_get C (pc := 11) dX2_takeCorner_11 gf_X2_takeCorner_68 1 rfl rfl ?_
  refine r_icmp_ge C (pc := 14) 39 dX2_takeCorner_14 rfl h (fun c14 h => ?_) (fun c14 h => ?_)
  · refine r_iload_n C (pc := 39) dX2_takeCorner_39 rfl 3 rfl ?_
    exact r_iret C (pc := 40) dX2_takeCorner_40 (hK v3_5 this_numbers_5 (wp_s h) rfl)
  · refine r_iload_n C (pc := 17) dX2_takeCorner_17 rfl 3 rfl ?_
    refine r_aload_n C (pc := 18) dX2_takeCorner_18 rfl 0 rfl ?_
    refine r_iload C (pc := 19) dX2_takeCorner_19 4 rfl ?_
    refine r_aload_n C (pc := 21) dX2_takeCorner_21 rfl 1 rfl ?_
    refine r_iload_n C (pc := 22) dX2_takeCorner_22 rfl 2 rfl ?_
    refine r_iload C (pc := 23) dX2_takeCorner_23 4 rfl ?_
    obtain ⟨r25, e25, h⟩ := wp_b1 h
    refine b_cVi C (pc := 25) dX2_takeCorner_25 (c_X0_number (xl g) (xG g) a_p1 a_p1_basis a_p1_numbers a_p1_keys a_p1_twos a_p1_basis_gaps c_p1_followed c_p1_there c_p1_held c_p1_basis_size c_p1_keys p2 v4_5 r25 e25) rfl gX2_takeCorner_X0_number ⟨rfl, rfl⟩ 2 hd_X0_number ⟨Nat.le_of_ble_eq_true rfl, Nat.le_of_ble_eq_true rfl⟩ rfl 3 rfl rfl rfl [3, 4, 5] rfl (srt_nd 0 rfl) (ws' := w_X2_takeCorner (xG g) a_this a_this_table a_this_numbers a_this_images a_this_seen a_this_events a_this_book a_this_table_gaps a_p1 a_p1_basis a_p1_numbers a_p1_keys a_p1_twos a_p1_basis_gaps c_this_table_size this_numbers_5 c_p1_followed c_p1_there c_p1_held c_p1_basis_size c_p1_keys) (Put.m rfl rfl rfl) rfl (rest := [.int (jz v4_5), .ref a_this, .int (jz v3_5)]) rfl (Nat.le_of_ble_eq_true rfl) ⟨Nat.zero_le _, Nat.zero_le _⟩ ?_
    obtain ⟨r28, this_numbers_28, e28, h⟩ := wp_b2 h
    refine b_cVi C (pc := 28) dX2_takeCorner_28 (c_X2_becomes (xl g) (xG g) a_this a_this_table a_this_numbers a_this_images a_this_seen a_this_events a_this_book this_numbers_5 v4_5 r25 r28 this_numbers_28 e28) rfl gX2_takeCorner_X2_becomes ⟨rfl, rfl⟩ 2 hd_X2_becomes ⟨Nat.le_of_ble_eq_true rfl, Nat.le_of_ble_eq_true rfl⟩ rfl 0 rfl rfl rfl [0, 2] rfl (srt_nd 0 rfl) (ws' := w_X2_takeCorner (xG g) a_this a_this_table a_this_numbers a_this_images a_this_seen a_this_events a_this_book a_this_table_gaps a_p1 a_p1_basis a_p1_numbers a_p1_keys a_p1_twos a_p1_basis_gaps c_this_table_size this_numbers_28 c_p1_followed c_p1_there c_p1_held c_p1_basis_size c_p1_keys) (Put.m rfl rfl rfl) rfl (rest := [.int (jz v3_5)]) rfl (Nat.le_of_ble_eq_true rfl) ⟨Nat.zero_le _, Nat.zero_le _⟩ ?_
    refine r_iadd C (pc := 31) dX2_takeCorner_31 ?_
    refine r_let h (fun x32 h => ?_)
    refine r_istore_n C (pc := 32) dX2_takeCorner_32 rfl (by decide) (L' := [(0, .ref a_this), (1, .ref a_p1), (2, .int (jz p2)), (3, .int (jz x32)), (4, .int (jz v4_5))]) rfl ?_
    refine r_iinc C (pc := 33) dX2_takeCorner_33 4 rfl (by decide) (L' := [(0, .ref a_this), (1, .ref a_p1), (2, .int (jz p2)), (3, .int (jz x32)), (4, .int (jz (v4_5 + 1)))]) rfl ?_
    refine r_goto C (pc := 36) 5 dX2_takeCorner_36 rfl ?_
    exact hn5 x32 (v4_5 + 1) this_numbers_28 h
theorem c_X2_takeCorner (l : Launch) (G : gG) (a_this : Nat) (a_this_table : Nat) (a_this_numbers : Nat) (a_this_images : Nat) (a_this_seen : Nat) (a_this_events : Nat) (a_this_book : Nat) (a_this_table_gaps : Nat) (a_p1 : Nat) (a_p1_basis : Nat) (a_p1_numbers : Nat) (a_p1_keys : Nat) (a_p1_twos : Nat) (a_p1_basis_gaps : Nat) (c_this_table_size : Int) (c_this_numbers : Nat → Int) (c_p1_followed : Int) (c_p1_there : Int) (c_p1_held : Int) (c_p1_basis_size : Int) (c_p1_keys : Nat → Int64) (p2 : Int) (r : Int) (o0 : Nat → Int) (hf : f_X2_takeCorner p2 c_this_table_size c_this_numbers c_p1_held c_p1_basis_size c_p1_keys = some (r, o0)) : CTi l yX2_takeCorner wsX2_takeCorner rm_X2_takeCorner G (w_X2_takeCorner G a_this a_this_table a_this_numbers a_this_images a_this_seen a_this_events a_this_book a_this_table_gaps a_p1 a_p1_basis a_p1_numbers a_p1_keys a_p1_twos a_p1_basis_gaps c_this_table_size c_this_numbers c_p1_followed c_p1_there c_p1_held c_p1_basis_size c_p1_keys) [.ref a_this, .ref a_p1, .int (jz p2)] (jz r) (w_X2_takeCorner G a_this a_this_table a_this_numbers a_this_images a_this_seen a_this_events a_this_book a_this_table_gaps a_p1 a_p1_basis a_p1_numbers a_p1_keys a_p1_twos a_p1_basis_gaps c_this_table_size o0 c_p1_followed c_p1_there c_p1_held c_p1_basis_size c_p1_keys) := CTi_of (by decide) rfl rfl (Nat.le_of_ble_eq_true rfl) (fun g C hG hl hF => by
    subst hG
    subst hl
    exact k_X2_takeCorner C a_this a_this_table a_this_numbers a_this_images a_this_seen a_this_events a_this_book a_this_table_gaps a_p1 a_p1_basis a_p1_numbers a_p1_keys a_p1_twos a_p1_basis_gaps c_this_table_size c_this_numbers c_p1_followed c_p1_there c_p1_held c_p1_basis_size c_p1_keys p2 (fun x => x = (r, o0)) (fun r' o0' e => by cases e; exact hF) ⟨_, hf, rfl⟩)

-- TightHulls$Setup.mapHolds(Z)Z
def f_X2_mapHolds (p1 : Int) (c_this_table_size : Int) (c_this_table_gaps : Nat → Int) (c_this_images : Nat → Int) : Option Int := lq1 (fun (n2 : Int → Option Int) (v2_2 : Int) => if ltI v2_2 c_this_table_size = true then (lv ((v2_2 + 1)) (fun x16 => lq1 (fun (n17 : Int → Option Int) (v3_17 : Int) => if ltI v3_17 c_this_table_size = true then (grd (iin v2_2 5) (grd (iin v3_17 5) (bd1 (f_X4_gap (c_this_images (ix v2_2)) (c_this_images (ix v3_17)) c_this_table_size c_this_table_gaps) (fun r44 => bd1 (f_X4_gap v2_2 v3_17 c_this_table_size c_this_table_gaps) (fun r53 => lv ((r44 - r53)) (fun x57 => jn (some 0) (fun (k73 : Option Int) => if ltI 0 x57 = true then k73 else (jn (n17 (v3_17 + 1)) (fun (k75 : Option Int) => if ltI x57 0 = true then (if eqI p1 0 = true then k73 else k75) else k75))))))))) else (n2 (v2_2 + 1))) 300 x16)) else (some 1)) 300 0
abbrev rm_X2_mapHolds : Room := { frames := 1, cells := 0, slots := 0, locals := 23 }
abbrev w_X2_mapHolds (G : gG) (a_this : Nat) (a_this_table : Nat) (a_this_numbers : Nat) (a_this_images : Nat) (a_this_seen : Nat) (a_this_events : Nat) (a_this_book : Nat) (a_this_table_gaps : Nat) (c_this_table_size : Int) (c_this_table_gaps : Nat → Int) (c_this_images : Nat → Int) : va_W := [(a_this, .inr (2, [.ref a_this_table, .ref a_this_numbers, .ref a_this_images, .ref a_this_seen, .ref a_this_events, .ref a_this_book])), (a_this_table, .inr (4, [.int (jz c_this_table_size), .ref a_this_table_gaps])), (a_this_table_gaps, aI G 25 c_this_table_gaps), (a_this_images, aI G 5 c_this_images)]
theorem hd_X2_mapHolds : yX2_mapHolds.cls = RX2 ∧ yX2_mapHolds.cls ≠ "java/lang/invoke/MethodHandle" ∧ yX2_mapHolds.cls ≠ "java/lang/invoke/VarHandle" ∧ (parseMethodDescriptor yX2_mapHolds.desc).map (fun d => d.parameters.length) = some 1 := by decide +kernel
theorem in_X2_mapHolds_X2 : ∀ w ∈ u_ws RX2 TX2 6, w ∈ wsX2_mapHolds := fun w h => List.mem_cons_of_mem _ (List.mem_append_left _ (List.mem_append_right _ (h)))
theorem gf_X2_mapHolds_12 : GF wsX2_mapHolds RX2 12 2 0 := ⟨RX2, TX2, 6, rfl, in_X2_mapHolds_X2, by decide, List.mem_of_getElem? (i := 1) rfl⟩
theorem in_X2_mapHolds_X4 : ∀ w ∈ u_ws RX4 TX4 2, w ∈ wsX2_mapHolds := fun w h => List.mem_cons_of_mem _ (List.mem_append_right _ (h))
theorem gf_X2_mapHolds_68 : GF wsX2_mapHolds RX2 68 4 0 := ⟨RX4, TX4, 2, rfl, in_X2_mapHolds_X4, by decide, List.mem_of_getElem? (i := 2) rfl⟩
theorem gf_X2_mapHolds_22 : GF wsX2_mapHolds RX2 22 2 2 := ⟨RX2, TX2, 6, rfl, in_X2_mapHolds_X2, by decide, List.mem_of_getElem? (i := 3) rfl⟩
set_option maxRecDepth 100000 in
set_option maxHeartbeats 4000000 in
theorem k_X2_mapHolds {g : XC} (C : XOk g cX2_mapHolds RX2 wsX2_mapHolds rm_X2_mapHolds 5) (a_this : Nat) (a_this_table : Nat) (a_this_numbers : Nat) (a_this_images : Nat) (a_this_seen : Nat) (a_this_events : Nat) (a_this_book : Nat) (a_this_table_gaps : Nat) (c_this_table_size : Int) (c_this_table_gaps : Nat → Int) (c_this_images : Nat → Int) (p1 : Int) (K : Int → Prop) (hK : ∀ (r : Int), K r → (narrow .boolean (.int (jz r)) = .int (jz r) → FinI g 0 0 (w_X2_mapHolds (xG g) a_this a_this_table a_this_numbers a_this_images a_this_seen a_this_events a_this_book a_this_table_gaps c_this_table_size c_this_table_gaps c_this_images) (jz r))) (h : wp (f_X2_mapHolds p1 c_this_table_size c_this_table_gaps c_this_images) K) : WW g 0 0 (w_X2_mapHolds (xG g) a_this a_this_table a_this_numbers a_this_images a_this_seen a_this_events a_this_book a_this_table_gaps c_this_table_size c_this_table_gaps c_this_images) 0 [(0, .ref a_this), (1, .int (jz p1))] [] := by
  unfold f_X2_mapHolds at h
  refine r_iconst C (pc := 0) dX2_mapHolds_0 ?_
  refine r_istore_n C (pc := 1) dX2_mapHolds_1 rfl (by decide) (L' := [(0, .ref a_this), (1, .int (jz p1)), (2, .int (jz 0))]) rfl ?_
  refine lq1_e (fun (v2_2 : Int) => WW g 0 0 (w_X2_mapHolds (xG g) a_this a_this_table a_this_numbers a_this_images a_this_seen a_this_events a_this_book a_this_table_gaps c_this_table_size c_this_table_gaps c_this_images) 2 [(0, .ref a_this), (1, .int (jz p1)), (2, .int (jz v2_2))] []) h (fun n2 hn2 v2_2 h => ?_)
  refine r_iload_n C (pc := 2) dX2_mapHolds_2 rfl 2 rfl ?_
  refine r_aload_n C (pc := 3) dX2_mapHolds_3 rfl 0 rfl ?_
  refine r_get C (pc := 4) dX2_mapHolds_4 gf_X2_mapHolds_12 0 rfl rfl ?_
  refine r_get C (pc := 7) dX2_mapHolds_7 gf_X2_mapHolds_68 1 rfl rfl ?_
  refine r_icmp_ge C (pc := 10) 87 dX2_mapHolds_10 rfl h (fun c10 h => ?_) (fun c10 h => ?_)
  · refine r_iconst C (pc := 87) dX2_mapHolds_87 ?_
    exact r_iret C (pc := 88) dX2_mapHolds_88 (hK 1 (wp_s h) (nB rfl).1)
  · refine r_iload_n C (pc := 13) dX2_mapHolds_13 rfl 2 rfl ?_
    refine r_iconst C (pc := 14) dX2_mapHolds_14 ?_
    refine r_iadd C (pc := 15) dX2_mapHolds_15 ?_
    refine r_let h (fun x16 h => ?_)
    refine r_istore_n C (pc := 16) dX2_mapHolds_16 rfl (by decide) (L' := [(0, .ref a_this), (1, .int (jz p1)), (2, .int (jz v2_2)), (3, .int (jz x16))]) rfl ?_
    refine lq1_e (fun (v3_17 : Int) => WW g 0 0 (w_X2_mapHolds (xG g) a_this a_this_table a_this_numbers a_this_images a_this_seen a_this_events a_this_book a_this_table_gaps c_this_table_size c_this_table_gaps c_this_images) 17 [(0, .ref a_this), (1, .int (jz p1)), (2, .int (jz v2_2)), (3, .int (jz v3_17))] []) h (fun n17 hn17 v3_17 h => ?_)
    refine r_iload_n C (pc := 17) dX2_mapHolds_17 rfl 3 rfl ?_
    refine r_aload_n C (pc := 18) dX2_mapHolds_18 rfl 0 rfl ?_
    refine r_get C (pc := 19) dX2_mapHolds_19 gf_X2_mapHolds_12 0 rfl rfl ?_
    refine r_get C (pc := 22) dX2_mapHolds_22 gf_X2_mapHolds_68 1 rfl rfl ?_
    refine r_icmp_ge C (pc := 25) 81 dX2_mapHolds_25 rfl h (fun c25 h => ?_) (fun c25 h => ?_)
    · refine r_iinc C (pc := 81) dX2_mapHolds_81 2 rfl (by decide) (L' := [(0, .ref a_this), (1, .int (jz p1)), (2, .int (jz (v2_2 + 1))), (3, .int (jz v3_17))]) rfl ?_
      refine r_goto C (pc := 84) 2 dX2_mapHolds_84 rfl ?_
      refine r_sub [0, 1, 2] rfl ?_
      exact hn2 (v2_2 + 1) h
    · refine r_aload_n C (pc := 28) dX2_mapHolds_28 rfl 0 rfl ?_
      refine r_get C (pc := 29) dX2_mapHolds_29 gf_X2_mapHolds_12 0 rfl rfl ?_
      refine r_aload_n C (pc := 32) dX2_mapHolds_32 rfl 0 rfl ?_
      refine r_get C (pc := 33) dX2_mapHolds_33 gf_X2_mapHolds_22 0 rfl rfl ?_
      refine r_iload_n C (pc := 36) dX2_mapHolds_36 rfl 2 rfl ?_
      refine r_iald C (pc := 37) dX2_mapHolds_37 h 3 rfl (fun h => ?_)
      refine r_aload_n C (pc := 38) dX2_mapHolds_38 rfl 0 rfl ?_
      refine r_get C (pc := 39) dX2_mapHolds_39 gf_X2_mapHolds_22 0 rfl rfl ?_
      refine r_iload_n C (pc := 42) dX2_mapHolds_42 rfl 3 rfl ?_
      refine r_iald C (pc := 43) dX2_mapHolds_43 h 3 rfl (fun h => ?_)
      obtain ⟨r44, e44, h⟩ := wp_b1 h
      refine b_cVi C (pc := 44) dX2_mapHolds_44 (c_X4_gap (xl g) (xG g) a_this_table a_this_table_gaps c_this_table_size c_this_table_gaps (c_this_images (ix v2_2)) (c_this_images (ix v3_17)) r44 e44) rfl gX2_mapHolds_X4_gap ⟨rfl, rfl⟩ 2 hd_X4_gap ⟨Nat.le_of_ble_eq_true rfl, Nat.le_of_ble_eq_true rfl⟩ rfl 1 rfl rfl rfl [1, 2] rfl (srt_nd 0 rfl) (ws' := w_X2_mapHolds (xG g) a_this a_this_table a_this_numbers a_this_images a_this_seen a_this_events a_this_book a_this_table_gaps c_this_table_size c_this_table_gaps c_this_images) (Put.m rfl rfl rfl) rfl (rest := []) rfl (Nat.le_of_ble_eq_true rfl) ⟨Nat.zero_le _, Nat.zero_le _⟩ ?_
      refine r_aload_n C (pc := 47) dX2_mapHolds_47 rfl 0 rfl ?_
      refine r_get C (pc := 48) dX2_mapHolds_48 gf_X2_mapHolds_12 0 rfl rfl ?_
      refine r_iload_n C (pc := 51) dX2_mapHolds_51 rfl 2 rfl ?_
      refine r_iload_n C (pc := 52) dX2_mapHolds_52 rfl 3 rfl ?_
      obtain ⟨r53, e53, h⟩ := wp_b1 h
      refine b_cVi C (pc := 53) dX2_mapHolds_53 (c_X4_gap (xl g) (xG g) a_this_table a_this_table_gaps c_this_table_size c_this_table_gaps v2_2 v3_17 r53 e53) rfl gX2_mapHolds_X4_gap ⟨rfl, rfl⟩ 2 hd_X4_gap ⟨Nat.le_of_ble_eq_true rfl, Nat.le_of_ble_eq_true rfl⟩ rfl 1 rfl rfl rfl [1, 2] rfl (srt_nd 0 rfl) (ws' := w_X2_mapHolds (xG g) a_this a_this_table a_this_numbers a_this_images a_this_seen a_this_events a_this_book a_this_table_gaps c_this_table_size c_this_table_gaps c_this_images) (Put.m rfl rfl rfl) rfl (rest := [.int (jz r44)]) rfl (Nat.le_of_ble_eq_true rfl) ⟨Nat.zero_le _, Nat.zero_le _⟩ ?_
      refine r_isub C (pc := 56) dX2_mapHolds_56 ?_
      refine r_let h (fun x57 h => ?_)
      refine r_istore C (pc := 57) dX2_mapHolds_57 (by decide) (L' := [(0, .ref a_this), (1, .int (jz p1)), (2, .int (jz v2_2)), (3, .int (jz v3_17)), (4, .int (jz x57))]) rfl ?_
      refine r_iload C (pc := 59) dX2_mapHolds_59 4 rfl ?_
      refine jn_e (fun (k73 : Option Int) => wp (k73) K → WW g 0 0 (w_X2_mapHolds (xG g) a_this a_this_table a_this_numbers a_this_images a_this_seen a_this_events a_this_book a_this_table_gaps c_this_table_size c_this_table_gaps c_this_images) 73 [] []) h (fun h => ?_) (fun k73 hk73 h => ?_)
      · refine r_iconst C (pc := 73) dX2_mapHolds_73 ?_
        exact r_iret C (pc := 74) dX2_mapHolds_74 (hK 0 (wp_s h) (nB rfl).1)
      · refine r_if_gt C (pc := 61) 73 dX2_mapHolds_61 rfl h (fun c61 h => ?_) (fun c61 h => ?_)
        · refine r_sub [] rfl ?_
          exact hk73 h
        · refine r_iload C (pc := 64) dX2_mapHolds_64 4 rfl ?_
          refine jn_e (fun (k75 : Option Int) => wp (k75) K → WW g 0 0 (w_X2_mapHolds (xG g) a_this a_this_table a_this_numbers a_this_images a_this_seen a_this_events a_this_book a_this_table_gaps c_this_table_size c_this_table_gaps c_this_images) 75 [(0, .ref a_this), (1, .int (jz p1)), (2, .int (jz v2_2)), (3, .int (jz v3_17))] []) h (fun h => ?_) (fun k75 hk75 h => ?_)
          · refine r_iinc C (pc := 75) dX2_mapHolds_75 3 rfl (by decide) (L' := [(0, .ref a_this), (1, .int (jz p1)), (2, .int (jz v2_2)), (3, .int (jz (v3_17 + 1)))]) rfl ?_
            refine r_goto C (pc := 78) 17 dX2_mapHolds_78 rfl ?_
            exact hn17 (v3_17 + 1) h
          · refine r_if_ge C (pc := 66) 75 dX2_mapHolds_66 rfl h (fun c66 h => ?_) (fun c66 h => ?_)
            · refine r_sub [0, 1, 2, 3] rfl ?_
              exact hk75 h
            · refine r_iload_n C (pc := 69) dX2_mapHolds_69 rfl 1 rfl ?_
              refine r_if_ne C (pc := 70) 75 dX2_mapHolds_70 rfl h (fun c70 h => ?_) (fun c70 h => ?_)
              · refine r_sub [0, 1, 2, 3] rfl ?_
                exact hk75 h
              · refine r_sub [] rfl ?_
                exact hk73 h
theorem c_X2_mapHolds (l : Launch) (G : gG) (a_this : Nat) (a_this_table : Nat) (a_this_numbers : Nat) (a_this_images : Nat) (a_this_seen : Nat) (a_this_events : Nat) (a_this_book : Nat) (a_this_table_gaps : Nat) (c_this_table_size : Int) (c_this_table_gaps : Nat → Int) (c_this_images : Nat → Int) (p1 : Int) (r : Int) (hf : f_X2_mapHolds p1 c_this_table_size c_this_table_gaps c_this_images = some r) : CTi l yX2_mapHolds wsX2_mapHolds rm_X2_mapHolds G (w_X2_mapHolds G a_this a_this_table a_this_numbers a_this_images a_this_seen a_this_events a_this_book a_this_table_gaps c_this_table_size c_this_table_gaps c_this_images) [.ref a_this, .int (jz p1)] (jz r) (w_X2_mapHolds G a_this a_this_table a_this_numbers a_this_images a_this_seen a_this_events a_this_book a_this_table_gaps c_this_table_size c_this_table_gaps c_this_images) := CTi_of (by decide) rfl rfl (Nat.le_of_ble_eq_true rfl) (fun g C hG hl hF => by
    subst hG
    subst hl
    exact k_X2_mapHolds C a_this a_this_table a_this_numbers a_this_images a_this_seen a_this_events a_this_book a_this_table_gaps c_this_table_size c_this_table_gaps c_this_images p1 (fun x => x = r) (fun r' e => by cases e; exact hF) ⟨_, hf, rfl⟩)

-- TightHulls$Setup.isAsSeen(LTightHulls$Table;)Z
def f_X2_isAsSeen (c_this_seen_held : Int) (c_this_seen_cells : Nat → Int) (c_p1_size : Int) (c_p1_gaps : Nat → Int) : Option Int := lq1 (fun (n2 : Int → Option Int) (v2_2 : Int) => if ltI v2_2 c_this_seen_held = true then (bd1 (f_X1_cell v2_2 0 12 c_this_seen_held c_this_seen_cells) (fun r19 => bd1 (f_X4_isSplit r19 c_p1_size) (fun r25 => jn (some 0) (fun (k48 : Option Int) => if eqI r25 0 = true then k48 else (bd1 (f_X4_weightOf r19 c_p1_size c_p1_gaps) (fun r33 => bd1 (f_X1_cell v2_2 1 12 c_this_seen_held c_this_seen_cells) (fun r42 => if eqI r33 r42 = true then (n2 (v2_2 + 1)) else k48))))))) else (some 1)) 300 0
abbrev rm_X2_isAsSeen : Room := { frames := 3, cells := 0, slots := 0, locals := 112 }
abbrev w_X2_isAsSeen (G : gG) (a_this : Nat) (a_this_table : Nat) (a_this_numbers : Nat) (a_this_images : Nat) (a_this_seen : Nat) (a_this_events : Nat) (a_this_book : Nat) (a_this_seen_cells : Nat) (a_p1 : Nat) (a_p1_gaps : Nat) (c_this_seen_most : Int) (c_this_seen_held : Int) (c_this_seen_cells : Nat → Int) (c_p1_size : Int) (c_p1_gaps : Nat → Int) : va_W := [(a_this, .inr (2, [.ref a_this_table, .ref a_this_numbers, .ref a_this_images, .ref a_this_seen, .ref a_this_events, .ref a_this_book])), (a_this_seen, .inr (1, [.int (jz c_this_seen_most), .ref a_this_seen_cells, .int (jz c_this_seen_held)])), (a_this_seen_cells, aI G 12 c_this_seen_cells), (a_p1, .inr (4, [.int (jz c_p1_size), .ref a_p1_gaps])), (a_p1_gaps, aI G 25 c_p1_gaps)]
theorem hd_X2_isAsSeen : yX2_isAsSeen.cls = RX2 ∧ yX2_isAsSeen.cls ≠ "java/lang/invoke/MethodHandle" ∧ yX2_isAsSeen.cls ≠ "java/lang/invoke/VarHandle" ∧ (parseMethodDescriptor yX2_isAsSeen.desc).map (fun d => d.parameters.length) = some 1 := by decide +kernel
theorem in_X2_isAsSeen_X2 : ∀ w ∈ u_ws RX2 TX2 6, w ∈ wsX2_isAsSeen := fun w h => List.mem_cons_of_mem _ (List.mem_append_left _ (List.mem_append_left _ (List.mem_append_right _ (h))))
theorem gf_X2_isAsSeen_30 : GF wsX2_isAsSeen RX2 30 2 3 := ⟨RX2, TX2, 6, rfl, in_X2_isAsSeen_X2, by decide, List.mem_of_getElem? (i := 1) rfl⟩
theorem in_X2_isAsSeen_X1 : ∀ w ∈ u_ws RX1 TX1 3, w ∈ wsX2_isAsSeen := fun w h => List.mem_cons_of_mem _ (List.mem_append_left _ (List.mem_append_right _ (h)))
theorem gf_X2_isAsSeen_95 : GF wsX2_isAsSeen RX2 95 1 2 := ⟨RX1, TX1, 3, rfl, in_X2_isAsSeen_X1, by decide, List.mem_of_getElem? (i := 2) rfl⟩
set_option maxRecDepth 100000 in
set_option maxHeartbeats 4000000 in
theorem k_X2_isAsSeen {g : XC} (C : XOk g cX2_isAsSeen RX2 wsX2_isAsSeen rm_X2_isAsSeen 4) (a_this : Nat) (a_this_table : Nat) (a_this_numbers : Nat) (a_this_images : Nat) (a_this_seen : Nat) (a_this_events : Nat) (a_this_book : Nat) (a_this_seen_cells : Nat) (a_p1 : Nat) (a_p1_gaps : Nat) (c_this_seen_most : Int) (c_this_seen_held : Int) (c_this_seen_cells : Nat → Int) (c_p1_size : Int) (c_p1_gaps : Nat → Int)  (K : Int → Prop) (hK : ∀ (r : Int), K r → (narrow .boolean (.int (jz r)) = .int (jz r) → FinI g 0 0 (w_X2_isAsSeen (xG g) a_this a_this_table a_this_numbers a_this_images a_this_seen a_this_events a_this_book a_this_seen_cells a_p1 a_p1_gaps c_this_seen_most c_this_seen_held c_this_seen_cells c_p1_size c_p1_gaps) (jz r))) (h : wp (f_X2_isAsSeen c_this_seen_held c_this_seen_cells c_p1_size c_p1_gaps) K) : WW g 0 0 (w_X2_isAsSeen (xG g) a_this a_this_table a_this_numbers a_this_images a_this_seen a_this_events a_this_book a_this_seen_cells a_p1 a_p1_gaps c_this_seen_most c_this_seen_held c_this_seen_cells c_p1_size c_p1_gaps) 0 [(0, .ref a_this), (1, .ref a_p1)] [] := by
  unfold f_X2_isAsSeen at h
  refine r_iconst C (pc := 0) dX2_isAsSeen_0 ?_
  refine r_istore_n C (pc := 1) dX2_isAsSeen_1 rfl (by decide) (L' := [(0, .ref a_this), (1, .ref a_p1), (2, .int (jz 0))]) rfl ?_
  refine lq1_e (fun (v2_2 : Int) => WW g 0 0 (w_X2_isAsSeen (xG g) a_this a_this_table a_this_numbers a_this_images a_this_seen a_this_events a_this_book a_this_seen_cells a_p1 a_p1_gaps c_this_seen_most c_this_seen_held c_this_seen_cells c_p1_size c_p1_gaps) 2 [(0, .ref a_this), (1, .ref a_p1), (2, .int (jz v2_2))] []) h (fun n2 hn2 v2_2 h => ?_)
  refine r_iload_n C (pc := 2) dX2_isAsSeen_2 rfl 2 rfl ?_
  refine r_aload_n C (pc := 3) dX2_isAsSeen_3 rfl 0 rfl ?_
  refine r_get C (pc := 4) dX2_isAsSeen_4 gf_X2_isAsSeen_30 0 rfl rfl ?_
  refine r_get C (pc := 7) dX2_isAsSeen_7 gf_X2_isAsSeen_95 1 rfl rfl ?_
  refine r_icmp_ge C (pc := 10) 56 dX2_isAsSeen_10 rfl h (fun c10 h => ?_) (fun c10 h => ?_)
  · refine r_iconst C (pc := 56) dX2_isAsSeen_56 ?_
    exact r_iret C (pc := 57) dX2_isAsSeen_57 (hK 1 (wp_s h) (nB rfl).1)
  · refine r_aload_n C (pc := 13) dX2_isAsSeen_13 rfl 0 rfl ?_
    refine r_get C (pc := 14) dX2_isAsSeen_14 gf_X2_isAsSeen_30 0 rfl rfl ?_
    refine r_iload_n C (pc := 17) dX2_isAsSeen_17 rfl 2 rfl ?_
    refine r_iconst C (pc := 18) dX2_isAsSeen_18 ?_
    obtain ⟨r19, e19, h⟩ := wp_b1 h
    refine b_cVi C (pc := 19) dX2_isAsSeen_19 (c_X1_cell (xl g) (xG g) a_this_seen a_this_seen_cells 12 c_this_seen_most c_this_seen_held c_this_seen_cells v2_2 0 r19 e19) rfl gX2_isAsSeen_X1_cell ⟨rfl, rfl⟩ 2 hd_X1_cell ⟨Nat.le_of_ble_eq_true rfl, Nat.le_of_ble_eq_true rfl⟩ rfl 1 rfl rfl rfl [1, 2] rfl (srt_nd 0 rfl) (ws' := w_X2_isAsSeen (xG g) a_this a_this_table a_this_numbers a_this_images a_this_seen a_this_events a_this_book a_this_seen_cells a_p1 a_p1_gaps c_this_seen_most c_this_seen_held c_this_seen_cells c_p1_size c_p1_gaps) (Put.m rfl rfl rfl) rfl (rest := []) rfl (Nat.le_of_ble_eq_true rfl) ⟨Nat.zero_le _, Nat.zero_le _⟩ ?_
    refine r_istore_n C (pc := 22) dX2_isAsSeen_22 rfl (by decide) (L' := [(0, .ref a_this), (1, .ref a_p1), (2, .int (jz v2_2)), (3, .int (jz r19))]) rfl ?_
    refine r_aload_n C (pc := 23) dX2_isAsSeen_23 rfl 1 rfl ?_
    refine r_iload_n C (pc := 24) dX2_isAsSeen_24 rfl 3 rfl ?_
    obtain ⟨r25, e25, h⟩ := wp_b1 h
    refine b_cVi C (pc := 25) dX2_isAsSeen_25 (c_X4_isSplit (xl g) (xG g) a_p1 a_p1_gaps c_p1_size r19 r25 e25) rfl gX2_isAsSeen_X4_isSplit ⟨rfl, rfl⟩ 1 hd_X4_isSplit ⟨Nat.le_of_ble_eq_true rfl, Nat.le_of_ble_eq_true rfl⟩ rfl 3 rfl rfl rfl [3] rfl (srt_nd 0 rfl) (ws' := w_X2_isAsSeen (xG g) a_this a_this_table a_this_numbers a_this_images a_this_seen a_this_events a_this_book a_this_seen_cells a_p1 a_p1_gaps c_this_seen_most c_this_seen_held c_this_seen_cells c_p1_size c_p1_gaps) (Put.m rfl rfl rfl) rfl (rest := []) rfl (Nat.le_of_ble_eq_true rfl) ⟨Nat.zero_le _, Nat.zero_le _⟩ ?_
    refine jn_e (fun (k48 : Option Int) => wp (k48) K → WW g 0 0 (w_X2_isAsSeen (xG g) a_this a_this_table a_this_numbers a_this_images a_this_seen a_this_events a_this_book a_this_seen_cells a_p1 a_p1_gaps c_this_seen_most c_this_seen_held c_this_seen_cells c_p1_size c_p1_gaps) 48 [] []) h (fun h => ?_) (fun k48 hk48 h => ?_)
    · refine r_iconst C (pc := 48) dX2_isAsSeen_48 ?_
      exact r_iret C (pc := 49) dX2_isAsSeen_49 (hK 0 (wp_s h) (nB rfl).1)
    · refine r_if_eq C (pc := 28) 48 dX2_isAsSeen_28 rfl h (fun c28 h => ?_) (fun c28 h => ?_)
      · refine r_sub [] rfl ?_
        exact hk48 h
      · refine r_aload_n C (pc := 31) dX2_isAsSeen_31 rfl 1 rfl ?_
        refine r_iload_n C (pc := 32) dX2_isAsSeen_32 rfl 3 rfl ?_
        obtain ⟨r33, e33, h⟩ := wp_b1 h
        refine b_cVi C (pc := 33) dX2_isAsSeen_33 (c_X4_weightOf (xl g) (xG g) a_p1 a_p1_gaps c_p1_size c_p1_gaps r19 r33 e33) rfl gX2_isAsSeen_X4_weightOf ⟨rfl, rfl⟩ 1 hd_X4_weightOf ⟨Nat.le_of_ble_eq_true rfl, Nat.le_of_ble_eq_true rfl⟩ rfl 3 rfl rfl rfl [3, 4] rfl (srt_nd 0 rfl) (ws' := w_X2_isAsSeen (xG g) a_this a_this_table a_this_numbers a_this_images a_this_seen a_this_events a_this_book a_this_seen_cells a_p1 a_p1_gaps c_this_seen_most c_this_seen_held c_this_seen_cells c_p1_size c_p1_gaps) (Put.m rfl rfl rfl) rfl (rest := []) rfl (Nat.le_of_ble_eq_true rfl) ⟨Nat.zero_le _, Nat.zero_le _⟩ ?_
        refine r_aload_n C (pc := 36) dX2_isAsSeen_36 rfl 0 rfl ?_
        refine r_get C (pc := 37) dX2_isAsSeen_37 gf_X2_isAsSeen_30 0 rfl rfl ?_
        refine r_iload_n C (pc := 40) dX2_isAsSeen_40 rfl 2 rfl ?_
        refine r_iconst C (pc := 41) dX2_isAsSeen_41 ?_
        obtain ⟨r42, e42, h⟩ := wp_b1 h
        refine b_cVi C (pc := 42) dX2_isAsSeen_42 (c_X1_cell (xl g) (xG g) a_this_seen a_this_seen_cells 12 c_this_seen_most c_this_seen_held c_this_seen_cells v2_2 1 r42 e42) rfl gX2_isAsSeen_X1_cell ⟨rfl, rfl⟩ 2 hd_X1_cell ⟨Nat.le_of_ble_eq_true rfl, Nat.le_of_ble_eq_true rfl⟩ rfl 1 rfl rfl rfl [1, 2] rfl (srt_nd 0 rfl) (ws' := w_X2_isAsSeen (xG g) a_this a_this_table a_this_numbers a_this_images a_this_seen a_this_events a_this_book a_this_seen_cells a_p1 a_p1_gaps c_this_seen_most c_this_seen_held c_this_seen_cells c_p1_size c_p1_gaps) (Put.m rfl rfl rfl) rfl (rest := [.int (jz r33)]) rfl (Nat.le_of_ble_eq_true rfl) ⟨Nat.zero_le _, Nat.zero_le _⟩ ?_
        refine r_icmp_eq C (pc := 45) 50 dX2_isAsSeen_45 rfl h (fun c45 h => ?_) (fun c45 h => ?_)
        · refine r_iinc C (pc := 50) dX2_isAsSeen_50 2 rfl (by decide) (L' := [(0, .ref a_this), (1, .ref a_p1), (2, .int (jz (v2_2 + 1))), (3, .int (jz r19))]) rfl ?_
          refine r_goto C (pc := 53) 2 dX2_isAsSeen_53 rfl ?_
          refine r_sub [0, 1, 2] rfl ?_
          exact hn2 (v2_2 + 1) h
        · refine r_sub [] rfl ?_
          exact hk48 h
theorem c_X2_isAsSeen (l : Launch) (G : gG) (a_this : Nat) (a_this_table : Nat) (a_this_numbers : Nat) (a_this_images : Nat) (a_this_seen : Nat) (a_this_events : Nat) (a_this_book : Nat) (a_this_seen_cells : Nat) (a_p1 : Nat) (a_p1_gaps : Nat) (c_this_seen_most : Int) (c_this_seen_held : Int) (c_this_seen_cells : Nat → Int) (c_p1_size : Int) (c_p1_gaps : Nat → Int) (r : Int) (hf : f_X2_isAsSeen c_this_seen_held c_this_seen_cells c_p1_size c_p1_gaps = some r) : CTi l yX2_isAsSeen wsX2_isAsSeen rm_X2_isAsSeen G (w_X2_isAsSeen G a_this a_this_table a_this_numbers a_this_images a_this_seen a_this_events a_this_book a_this_seen_cells a_p1 a_p1_gaps c_this_seen_most c_this_seen_held c_this_seen_cells c_p1_size c_p1_gaps) [.ref a_this, .ref a_p1] (jz r) (w_X2_isAsSeen G a_this a_this_table a_this_numbers a_this_images a_this_seen a_this_events a_this_book a_this_seen_cells a_p1 a_p1_gaps c_this_seen_most c_this_seen_held c_this_seen_cells c_p1_size c_p1_gaps) := CTi_of (by decide) rfl rfl (Nat.le_of_ble_eq_true rfl) (fun g C hG hl hF => by
    subst hG
    subst hl
    exact k_X2_isAsSeen C a_this a_this_table a_this_numbers a_this_images a_this_seen a_this_events a_this_book a_this_seen_cells a_p1 a_p1_gaps c_this_seen_most c_this_seen_held c_this_seen_cells c_p1_size c_p1_gaps (fun x => x = r) (fun r' e => by cases e; exact hF) ⟨_, hf, rfl⟩)

-- TightHulls$Setup.moveAway(LTightHulls$Table;I)V
def f_X2_moveAway (p2 : Int) (c_p1_size : Int) (c_p1_gaps : Nat → Int) : Option (Nat → Int) := lq2 (fun (n2 : Int → (Nat → Int) → Option (Nat → Int)) (v2_2 : Int) (p1_gaps_2 : Nat → Int) => if ltI v2_2 c_p1_size = true then (bd1 (f_X4_gap p2 v2_2 c_p1_size p1_gaps_2) (fun r18 => bd1 (f_X4_put p2 v2_2 (minI 40 (r18 + 1)) c_p1_size p1_gaps_2) (fun p1_gaps_26 => n2 (v2_2 + 1) p1_gaps_26))) else (some p1_gaps_2)) 300 0 c_p1_gaps
abbrev rm_X2_moveAway : Room := { frames := 2, cells := 0, slots := 0, locals := 60 }
abbrev w_X2_moveAway (G : gG) (a_p1 : Nat) (a_p1_gaps : Nat) (c_p1_size : Int) (c_p1_gaps : Nat → Int) : va_W := [(a_p1, .inr (4, [.int (jz c_p1_size), .ref a_p1_gaps])), (a_p1_gaps, aI G 25 c_p1_gaps)]
theorem hd_X2_moveAway : yX2_moveAway.cls ≠ "java/lang/invoke/MethodHandle" ∧ yX2_moveAway.cls ≠ "java/lang/invoke/VarHandle" ∧ (parseMethodDescriptor yX2_moveAway.desc).map (fun d => d.parameters.length) = some 2 := by decide +kernel
theorem in_X2_moveAway_X4 : ∀ w ∈ u_ws RX4 TX4 2, w ∈ wsX2_moveAway := fun w h => List.mem_cons_of_mem _ (List.mem_append_right _ (h))
theorem gf_X2_moveAway_68 : GF wsX2_moveAway RX2 68 4 0 := ⟨RX4, TX4, 2, rfl, in_X2_moveAway_X4, by decide, List.mem_of_getElem? (i := 1) rfl⟩
theorem mm_X2_moveAway_2 : Cond.methodLink RX2 76 Lib.Math.min.name ∈ wsX2_moveAway := List.mem_of_getElem? (i := 2) rfl
theorem mm_X2_moveAway_3 : Cond.static Lib.Math.min.name ∈ wsX2_moveAway := List.mem_of_getElem? (i := 3) rfl
theorem mm_X2_moveAway_4 : Cond.initialized "java/lang/Math" ∈ wsX2_moveAway := List.mem_of_getElem? (i := 4) rfl
theorem mm_X2_moveAway_5 : Cond.code Lib.Math.min.name Lib.Math.min.code 2 (some .int) ∈ wsX2_moveAway := List.mem_of_getElem? (i := 5) rfl
set_option maxRecDepth 100000 in
set_option maxHeartbeats 4000000 in
theorem k_X2_moveAway {g : XC} (C : XOk g cX2_moveAway RX2 wsX2_moveAway rm_X2_moveAway 3) (a_p1 : Nat) (a_p1_gaps : Nat) (c_p1_size : Int) (c_p1_gaps : Nat → Int) (p2 : Int) (K : (Nat → Int) → Prop) (hK : ∀ (o0 : Nat → Int), K o0 → FinV g 0 0 (w_X2_moveAway (xG g) a_p1 a_p1_gaps c_p1_size o0)) (h : wp (f_X2_moveAway p2 c_p1_size c_p1_gaps) K) : WW g 0 0 (w_X2_moveAway (xG g) a_p1 a_p1_gaps c_p1_size c_p1_gaps) 0 [(0, .ref a_p1), (1, .int (jz p2))] [] := by
  unfold f_X2_moveAway at h
  refine r_iconst C (pc := 0) dX2_moveAway_0 ?_
  refine r_istore_n C (pc := 1) dX2_moveAway_1 rfl (by decide) (L' := [(0, .ref a_p1), (1, .int (jz p2)), (2, .int (jz 0))]) rfl ?_
  refine lq2_e (fun (v2_2 : Int) (p1_gaps_2 : Nat → Int) => WW g 0 0 (w_X2_moveAway (xG g) a_p1 a_p1_gaps c_p1_size p1_gaps_2) 2 [(0, .ref a_p1), (1, .int (jz p2)), (2, .int (jz v2_2))] []) h (fun n2 hn2 v2_2 p1_gaps_2 h => ?_)
  refine r_iload_n C (pc := 2) dX2_moveAway_2 rfl 2 rfl ?_
  refine r_aload_n C (pc := 3) dX2_moveAway_3 rfl 0 rfl ?_
  refine r_get C (pc := 4) dX2_moveAway_4 gf_X2_moveAway_68 0 rfl rfl ?_
  refine r_icmp_ge C (pc := 7) 35 dX2_moveAway_7 rfl h (fun c7 h => ?_) (fun c7 h => ?_)
  · exact r_vret C (pc := 35) dX2_moveAway_35 (hK p1_gaps_2 (wp_s h))
  · refine r_aload_n C (pc := 10) dX2_moveAway_10 rfl 0 rfl ?_
    refine r_iload_n C (pc := 11) dX2_moveAway_11 rfl 1 rfl ?_
    refine r_iload_n C (pc := 12) dX2_moveAway_12 rfl 2 rfl ?_
    refine r_bipush C (pc := 13) dX2_moveAway_13 rfl ?_
    refine r_aload_n C (pc := 15) dX2_moveAway_15 rfl 0 rfl ?_
    refine r_iload_n C (pc := 16) dX2_moveAway_16 rfl 1 rfl ?_
    refine r_iload_n C (pc := 17) dX2_moveAway_17 rfl 2 rfl ?_
    obtain ⟨r18, e18, h⟩ := wp_b1 h
    refine b_cVi C (pc := 18) dX2_moveAway_18 (c_X4_gap (xl g) (xG g) a_p1 a_p1_gaps c_p1_size p1_gaps_2 p2 v2_2 r18 e18) rfl gX2_moveAway_X4_gap ⟨rfl, rfl⟩ 2 hd_X4_gap ⟨Nat.le_of_ble_eq_true rfl, Nat.le_of_ble_eq_true rfl⟩ rfl 0 rfl rfl rfl [0, 1] rfl (srt_nd 0 rfl) (ws' := w_X2_moveAway (xG g) a_p1 a_p1_gaps c_p1_size p1_gaps_2) (Put.m rfl rfl rfl) rfl (rest := [.int (jz 40), .int (jz v2_2), .int (jz p2), .ref a_p1]) rfl (Nat.le_of_ble_eq_true rfl) ⟨Nat.zero_le _, Nat.zero_le _⟩ ?_
    refine r_iconst C (pc := 21) dX2_moveAway_21 ?_
    refine r_iadd C (pc := 22) dX2_moveAway_22 ?_
    refine r_mmin C (pc := 23) dX2_moveAway_23 mm_X2_moveAway_2 mm_X2_moveAway_3 mm_X2_moveAway_4 mm_X2_moveAway_5 (Nat.le_of_ble_eq_true rfl) (Nat.le_of_ble_eq_true rfl) ⟨Nat.zero_le _, Nat.zero_le _⟩ ?_
    obtain ⟨p1_gaps_26, e26, h⟩ := wp_b1 h
    refine b_cVv C (pc := 26) dX2_moveAway_26 (c_X4_put (xl g) (xG g) a_p1 a_p1_gaps c_p1_size p1_gaps_2 p2 v2_2 (minI 40 (r18 + 1)) p1_gaps_26 e26) rfl gX2_moveAway_X4_put ⟨rfl, rfl⟩ 3 hd_X4_put ⟨Nat.le_of_ble_eq_true rfl, Nat.le_of_ble_eq_true rfl⟩ rfl 0 rfl rfl rfl [0, 1] rfl (srt_nd 0 rfl) (ws' := w_X2_moveAway (xG g) a_p1 a_p1_gaps c_p1_size p1_gaps_26) (Put.m rfl rfl rfl) rfl (rest := []) rfl (Nat.le_of_ble_eq_true rfl) ⟨Nat.zero_le _, Nat.zero_le _⟩ ?_
    refine r_iinc C (pc := 29) dX2_moveAway_29 2 rfl (by decide) (L' := [(0, .ref a_p1), (1, .int (jz p2)), (2, .int (jz (v2_2 + 1)))]) rfl ?_
    refine r_goto C (pc := 32) 2 dX2_moveAway_32 rfl ?_
    exact hn2 (v2_2 + 1) p1_gaps_26 h
theorem c_X2_moveAway (l : Launch) (G : gG) (a_p1 : Nat) (a_p1_gaps : Nat) (c_p1_size : Int) (c_p1_gaps : Nat → Int) (p2 : Int) (o0 : Nat → Int) (hf : f_X2_moveAway p2 c_p1_size c_p1_gaps = some o0) : CTv l yX2_moveAway wsX2_moveAway rm_X2_moveAway G (w_X2_moveAway G a_p1 a_p1_gaps c_p1_size c_p1_gaps) [.ref a_p1, .int (jz p2)] (w_X2_moveAway G a_p1 a_p1_gaps c_p1_size o0) := CTv_of (by decide) rfl rfl (Nat.le_of_ble_eq_true rfl) (fun g C hG hl hF => by
    subst hG
    subst hl
    exact k_X2_moveAway C a_p1 a_p1_gaps c_p1_size c_p1_gaps p2 (fun x => x = o0) (fun o0' e => by cases e; exact hF) ⟨_, hf, rfl⟩)

-- TightHulls$Setup.drawTogether(LTightHulls$Table;I)V
def f_X2_drawTogether (p2 : Int) (c_p1_size : Int) (c_p1_gaps : Nat → Int) : Option (Nat → Int) := lq2 (fun (n2 : Int → (Nat → Int) → Option (Nat → Int)) (v2_2 : Int) (p1_gaps_2 : Nat → Int) => if ltI v2_2 c_p1_size = true then (lv ((v2_2 + 1)) (fun x13 => lq2 (fun (n14 : Int → (Nat → Int) → Option (Nat → Int)) (v3_14 : Int) (p1_gaps_14 : Nat → Int) => if ltI v3_14 c_p1_size = true then (bd1 (f_X4_gap v2_2 v3_14 c_p1_size p1_gaps_14) (fun r29 => bd1 (f_X4_put v2_2 v3_14 (maxI 0 (r29 - p2)) c_p1_size p1_gaps_14) (fun p1_gaps_37 => n14 (v3_14 + 1) p1_gaps_37))) else (n2 (v2_2 + 1) p1_gaps_14)) 300 x13 p1_gaps_2)) else (some p1_gaps_2)) 300 0 c_p1_gaps
abbrev rm_X2_drawTogether : Room := { frames := 2, cells := 0, slots := 0, locals := 60 }
abbrev w_X2_drawTogether (G : gG) (a_p1 : Nat) (a_p1_gaps : Nat) (c_p1_size : Int) (c_p1_gaps : Nat → Int) : va_W := [(a_p1, .inr (4, [.int (jz c_p1_size), .ref a_p1_gaps])), (a_p1_gaps, aI G 25 c_p1_gaps)]
theorem hd_X2_drawTogether : yX2_drawTogether.cls ≠ "java/lang/invoke/MethodHandle" ∧ yX2_drawTogether.cls ≠ "java/lang/invoke/VarHandle" ∧ (parseMethodDescriptor yX2_drawTogether.desc).map (fun d => d.parameters.length) = some 2 := by decide +kernel
theorem in_X2_drawTogether_X4 : ∀ w ∈ u_ws RX4 TX4 2, w ∈ wsX2_drawTogether := fun w h => List.mem_cons_of_mem _ (List.mem_append_right _ (h))
theorem gf_X2_drawTogether_68 : GF wsX2_drawTogether RX2 68 4 0 := ⟨RX4, TX4, 2, rfl, in_X2_drawTogether_X4, by decide, List.mem_of_getElem? (i := 1) rfl⟩
theorem mm_X2_drawTogether_2 : Cond.methodLink RX2 118 Lib.Math.max.name ∈ wsX2_drawTogether := List.mem_of_getElem? (i := 2) rfl
theorem mm_X2_drawTogether_3 : Cond.static Lib.Math.max.name ∈ wsX2_drawTogether := List.mem_of_getElem? (i := 3) rfl
theorem mm_X2_drawTogether_4 : Cond.initialized "java/lang/Math" ∈ wsX2_drawTogether := List.mem_of_getElem? (i := 4) rfl
theorem mm_X2_drawTogether_5 : Cond.code Lib.Math.max.name Lib.Math.max.code 2 (some .int) ∈ wsX2_drawTogether := List.mem_of_getElem? (i := 5) rfl
set_option maxRecDepth 100000 in
set_option maxHeartbeats 4000000 in
theorem k_X2_drawTogether {g : XC} (C : XOk g cX2_drawTogether RX2 wsX2_drawTogether rm_X2_drawTogether 4) (a_p1 : Nat) (a_p1_gaps : Nat) (c_p1_size : Int) (c_p1_gaps : Nat → Int) (p2 : Int) (K : (Nat → Int) → Prop) (hK : ∀ (o0 : Nat → Int), K o0 → FinV g 0 0 (w_X2_drawTogether (xG g) a_p1 a_p1_gaps c_p1_size o0)) (h : wp (f_X2_drawTogether p2 c_p1_size c_p1_gaps) K) : WW g 0 0 (w_X2_drawTogether (xG g) a_p1 a_p1_gaps c_p1_size c_p1_gaps) 0 [(0, .ref a_p1), (1, .int (jz p2))] [] := by
  unfold f_X2_drawTogether at h
  refine r_iconst C (pc := 0) dX2_drawTogether_0 ?_
  refine r_istore_n C (pc := 1) dX2_drawTogether_1 rfl (by decide) (L' := [(0, .ref a_p1), (1, .int (jz p2)), (2, .int (jz 0))]) rfl ?_
  refine lq2_e (fun (v2_2 : Int) (p1_gaps_2 : Nat → Int) => WW g 0 0 (w_X2_drawTogether (xG g) a_p1 a_p1_gaps c_p1_size p1_gaps_2) 2 [(0, .ref a_p1), (1, .int (jz p2)), (2, .int (jz v2_2))] []) h (fun n2 hn2 v2_2 p1_gaps_2 h => ?_)
  refine r_iload_n C (pc := 2) dX2_drawTogether_2 rfl 2 rfl ?_
  refine r_aload_n C (pc := 3) dX2_drawTogether_3 rfl 0 rfl ?_
  refine r_get C (pc := 4) dX2_drawTogether_4 gf_X2_drawTogether_68 0 rfl rfl ?_
  refine r_icmp_ge C (pc := 7) 52 dX2_drawTogether_7 rfl h (fun c7 h => ?_) (fun c7 h => ?_)
  · exact r_vret C (pc := 52) dX2_drawTogether_52 (hK p1_gaps_2 (wp_s h))
  · refine r_iload_n C (pc := 10) dX2_drawTogether_10 rfl 2 rfl ?_
    refine r_iconst C (pc := 11) dX2_drawTogether_11 ?_
    refine r_iadd C (pc := 12) dX2_drawTogether_12 ?_
    refine r_let h (fun x13 h => ?_)
    refine r_istore_n C (pc := 13) dX2_drawTogether_13 rfl (by decide) (L' := [(0, .ref a_p1), (1, .int (jz p2)), (2, .int (jz v2_2)), (3, .int (jz x13))]) rfl ?_
    refine lq2_e (fun (v3_14 : Int) (p1_gaps_14 : Nat → Int) => WW g 0 0 (w_X2_drawTogether (xG g) a_p1 a_p1_gaps c_p1_size p1_gaps_14) 14 [(0, .ref a_p1), (1, .int (jz p2)), (2, .int (jz v2_2)), (3, .int (jz v3_14))] []) h (fun n14 hn14 v3_14 p1_gaps_14 h => ?_)
    refine r_iload_n C (pc := 14) dX2_drawTogether_14 rfl 3 rfl ?_
    refine r_aload_n C (pc := 15) dX2_drawTogether_15 rfl 0 rfl ?_
    refine r_get C (pc := 16) dX2_drawTogether_16 gf_X2_drawTogether_68 0 rfl rfl ?_
    refine r_icmp_ge C (pc := 19) 46 dX2_drawTogether_19 rfl h (fun c19 h => ?_) (fun c19 h => ?_)
    · refine r_iinc C (pc := 46) dX2_drawTogether_46 2 rfl (by decide) (L' := [(0, .ref a_p1), (1, .int (jz p2)), (2, .int (jz (v2_2 + 1))), (3, .int (jz v3_14))]) rfl ?_
      refine r_goto C (pc := 49) 2 dX2_drawTogether_49 rfl ?_
      refine r_sub [0, 1, 2] rfl ?_
      exact hn2 (v2_2 + 1) p1_gaps_14 h
    · refine r_aload_n C (pc := 22) dX2_drawTogether_22 rfl 0 rfl ?_
      refine r_iload_n C (pc := 23) dX2_drawTogether_23 rfl 2 rfl ?_
      refine r_iload_n C (pc := 24) dX2_drawTogether_24 rfl 3 rfl ?_
      refine r_iconst C (pc := 25) dX2_drawTogether_25 ?_
      refine r_aload_n C (pc := 26) dX2_drawTogether_26 rfl 0 rfl ?_
      refine r_iload_n C (pc := 27) dX2_drawTogether_27 rfl 2 rfl ?_
      refine r_iload_n C (pc := 28) dX2_drawTogether_28 rfl 3 rfl ?_
      obtain ⟨r29, e29, h⟩ := wp_b1 h
      refine b_cVi C (pc := 29) dX2_drawTogether_29 (c_X4_gap (xl g) (xG g) a_p1 a_p1_gaps c_p1_size p1_gaps_14 v2_2 v3_14 r29 e29) rfl gX2_drawTogether_X4_gap ⟨rfl, rfl⟩ 2 hd_X4_gap ⟨Nat.le_of_ble_eq_true rfl, Nat.le_of_ble_eq_true rfl⟩ rfl 0 rfl rfl rfl [0, 1] rfl (srt_nd 0 rfl) (ws' := w_X2_drawTogether (xG g) a_p1 a_p1_gaps c_p1_size p1_gaps_14) (Put.m rfl rfl rfl) rfl (rest := [.int (jz 0), .int (jz v3_14), .int (jz v2_2), .ref a_p1]) rfl (Nat.le_of_ble_eq_true rfl) ⟨Nat.zero_le _, Nat.zero_le _⟩ ?_
      refine r_iload_n C (pc := 32) dX2_drawTogether_32 rfl 1 rfl ?_
      refine r_isub C (pc := 33) dX2_drawTogether_33 ?_
      refine r_mmax C (pc := 34) dX2_drawTogether_34 mm_X2_drawTogether_2 mm_X2_drawTogether_3 mm_X2_drawTogether_4 mm_X2_drawTogether_5 (Nat.le_of_ble_eq_true rfl) (Nat.le_of_ble_eq_true rfl) ⟨Nat.zero_le _, Nat.zero_le _⟩ ?_
      obtain ⟨p1_gaps_37, e37, h⟩ := wp_b1 h
      refine b_cVv C (pc := 37) dX2_drawTogether_37 (c_X4_put (xl g) (xG g) a_p1 a_p1_gaps c_p1_size p1_gaps_14 v2_2 v3_14 (maxI 0 (r29 - p2)) p1_gaps_37 e37) rfl gX2_drawTogether_X4_put ⟨rfl, rfl⟩ 3 hd_X4_put ⟨Nat.le_of_ble_eq_true rfl, Nat.le_of_ble_eq_true rfl⟩ rfl 0 rfl rfl rfl [0, 1] rfl (srt_nd 0 rfl) (ws' := w_X2_drawTogether (xG g) a_p1 a_p1_gaps c_p1_size p1_gaps_37) (Put.m rfl rfl rfl) rfl (rest := []) rfl (Nat.le_of_ble_eq_true rfl) ⟨Nat.zero_le _, Nat.zero_le _⟩ ?_
      refine r_iinc C (pc := 40) dX2_drawTogether_40 3 rfl (by decide) (L' := [(0, .ref a_p1), (1, .int (jz p2)), (2, .int (jz v2_2)), (3, .int (jz (v3_14 + 1)))]) rfl ?_
      refine r_goto C (pc := 43) 14 dX2_drawTogether_43 rfl ?_
      exact hn14 (v3_14 + 1) p1_gaps_37 h
theorem c_X2_drawTogether (l : Launch) (G : gG) (a_p1 : Nat) (a_p1_gaps : Nat) (c_p1_size : Int) (c_p1_gaps : Nat → Int) (p2 : Int) (o0 : Nat → Int) (hf : f_X2_drawTogether p2 c_p1_size c_p1_gaps = some o0) : CTv l yX2_drawTogether wsX2_drawTogether rm_X2_drawTogether G (w_X2_drawTogether G a_p1 a_p1_gaps c_p1_size c_p1_gaps) [.ref a_p1, .int (jz p2)] (w_X2_drawTogether G a_p1 a_p1_gaps c_p1_size o0) := CTv_of (by decide) rfl rfl (Nat.le_of_ble_eq_true rfl) (fun g C hG hl hF => by
    subst hG
    subst hl
    exact k_X2_drawTogether C a_p1 a_p1_gaps c_p1_size c_p1_gaps p2 (fun x => x = o0) (fun o0' e => by cases e; exact hF) ⟨_, hf, rfl⟩)

-- TightHulls$Setup.happenTo(LTightHulls$Table;)V
def f_X2_happenTo (c_this_events_held : Int) (c_this_events_cells : Nat → Int) (c_p1_size : Int) (c_p1_gaps : Nat → Int) : Option (Nat → Int) := lq2 (fun (n2 : Int → (Nat → Int) → Option (Nat → Int)) (v2_2 : Int) (p1_gaps_2 : Nat → Int) => if ltI v2_2 c_this_events_held = true then (bd1 (f_X1_cell v2_2 1 24 c_this_events_held c_this_events_cells) (fun r19 => bd1 (f_X1_cell v2_2 0 24 c_this_events_held c_this_events_cells) (fun r29 => jn (fun (p1_gaps_80 : Nat → Int) => n2 (v2_2 + 1) p1_gaps_80) (fun (k80 : (Nat → Int) → Option (Nat → Int)) => if eqI r29 0 = true then (bd1 (f_X2_moveAway r19 c_p1_size p1_gaps_2) (fun p1_gaps_62 => k80 p1_gaps_62)) else (if eqI r29 1 = true then (bd1 (f_X2_drawTogether r19 c_p1_size p1_gaps_2) (fun p1_gaps_70 => k80 p1_gaps_70)) else (bd1 (f_X4_takeShortWays c_p1_size p1_gaps_2) (fun p1_gaps_77 => k80 p1_gaps_77))))))) else (some p1_gaps_2)) 300 0 c_p1_gaps
abbrev rm_X2_happenTo : Room := { frames := 3, cells := 0, slots := 0, locals := 83 }
abbrev w_X2_happenTo (G : gG) (a_this : Nat) (a_this_table : Nat) (a_this_numbers : Nat) (a_this_images : Nat) (a_this_seen : Nat) (a_this_events : Nat) (a_this_book : Nat) (a_this_events_cells : Nat) (a_p1 : Nat) (a_p1_gaps : Nat) (c_this_events_most : Int) (c_this_events_held : Int) (c_this_events_cells : Nat → Int) (c_p1_size : Int) (c_p1_gaps : Nat → Int) : va_W := [(a_this, .inr (2, [.ref a_this_table, .ref a_this_numbers, .ref a_this_images, .ref a_this_seen, .ref a_this_events, .ref a_this_book])), (a_this_events, .inr (1, [.int (jz c_this_events_most), .ref a_this_events_cells, .int (jz c_this_events_held)])), (a_this_events_cells, aI G 24 c_this_events_cells), (a_p1, .inr (4, [.int (jz c_p1_size), .ref a_p1_gaps])), (a_p1_gaps, aI G 25 c_p1_gaps)]
theorem hd_X2_happenTo : yX2_happenTo.cls = RX2 ∧ yX2_happenTo.cls ≠ "java/lang/invoke/MethodHandle" ∧ yX2_happenTo.cls ≠ "java/lang/invoke/VarHandle" ∧ (parseMethodDescriptor yX2_happenTo.desc).map (fun d => d.parameters.length) = some 1 := by decide +kernel
theorem in_X2_happenTo_X2 : ∀ w ∈ u_ws RX2 TX2 6, w ∈ wsX2_happenTo := fun w h => List.mem_cons_of_mem _ (List.mem_append_left _ (List.mem_append_left _ (List.mem_append_right _ (h))))
theorem gf_X2_happenTo_34 : GF wsX2_happenTo RX2 34 2 4 := ⟨RX2, TX2, 6, rfl, in_X2_happenTo_X2, by decide, List.mem_of_getElem? (i := 1) rfl⟩
theorem in_X2_happenTo_X1 : ∀ w ∈ u_ws RX1 TX1 3, w ∈ wsX2_happenTo := fun w h => List.mem_cons_of_mem _ (List.mem_append_left _ (List.mem_append_right _ (h)))
theorem gf_X2_happenTo_95 : GF wsX2_happenTo RX2 95 1 2 := ⟨RX1, TX1, 3, rfl, in_X2_happenTo_X1, by decide, List.mem_of_getElem? (i := 2) rfl⟩
set_option maxRecDepth 100000 in
set_option maxHeartbeats 4000000 in
theorem k_X2_happenTo {g : XC} (C : XOk g cX2_happenTo RX2 wsX2_happenTo rm_X2_happenTo 4) (a_this : Nat) (a_this_table : Nat) (a_this_numbers : Nat) (a_this_images : Nat) (a_this_seen : Nat) (a_this_events : Nat) (a_this_book : Nat) (a_this_events_cells : Nat) (a_p1 : Nat) (a_p1_gaps : Nat) (c_this_events_most : Int) (c_this_events_held : Int) (c_this_events_cells : Nat → Int) (c_p1_size : Int) (c_p1_gaps : Nat → Int)  (K : (Nat → Int) → Prop) (hK : ∀ (o0 : Nat → Int), K o0 → FinV g 0 0 (w_X2_happenTo (xG g) a_this a_this_table a_this_numbers a_this_images a_this_seen a_this_events a_this_book a_this_events_cells a_p1 a_p1_gaps c_this_events_most c_this_events_held c_this_events_cells c_p1_size o0)) (h : wp (f_X2_happenTo c_this_events_held c_this_events_cells c_p1_size c_p1_gaps) K) : WW g 0 0 (w_X2_happenTo (xG g) a_this a_this_table a_this_numbers a_this_images a_this_seen a_this_events a_this_book a_this_events_cells a_p1 a_p1_gaps c_this_events_most c_this_events_held c_this_events_cells c_p1_size c_p1_gaps) 0 [(0, .ref a_this), (1, .ref a_p1)] [] := by
  unfold f_X2_happenTo at h
  refine r_iconst C (pc := 0) dX2_happenTo_0 ?_
  refine r_istore_n C (pc := 1) dX2_happenTo_1 rfl (by decide) (L' := [(0, .ref a_this), (1, .ref a_p1), (2, .int (jz 0))]) rfl ?_
  refine lq2_e (fun (v2_2 : Int) (p1_gaps_2 : Nat → Int) => WW g 0 0 (w_X2_happenTo (xG g) a_this a_this_table a_this_numbers a_this_images a_this_seen a_this_events a_this_book a_this_events_cells a_p1 a_p1_gaps c_this_events_most c_this_events_held c_this_events_cells c_p1_size p1_gaps_2) 2 [(0, .ref a_this), (1, .ref a_p1), (2, .int (jz v2_2))] []) h (fun n2 hn2 v2_2 p1_gaps_2 h => ?_)
  refine r_iload_n C (pc := 2) dX2_happenTo_2 rfl 2 rfl ?_
  refine r_aload_n C (pc := 3) dX2_happenTo_3 rfl 0 rfl ?_
  refine r_get C (pc := 4) dX2_happenTo_4 gf_X2_happenTo_34 0 rfl rfl ?_
  refine r_get C (pc := 7) dX2_happenTo_7 gf_X2_happenTo_95 1 rfl rfl ?_
  refine r_icmp_ge C (pc := 10) 86 dX2_happenTo_10 rfl h (fun c10 h => ?_) (fun c10 h => ?_)
  · exact r_vret C (pc := 86) dX2_happenTo_86 (hK p1_gaps_2 (wp_s h))
  · refine r_aload_n C (pc := 13) dX2_happenTo_13 rfl 0 rfl ?_
    refine r_get C (pc := 14) dX2_happenTo_14 gf_X2_happenTo_34 0 rfl rfl ?_
    refine r_iload_n C (pc := 17) dX2_happenTo_17 rfl 2 rfl ?_
    refine r_iconst C (pc := 18) dX2_happenTo_18 ?_
    obtain ⟨r19, e19, h⟩ := wp_b1 h
    refine b_cVi C (pc := 19) dX2_happenTo_19 (c_X1_cell (xl g) (xG g) a_this_events a_this_events_cells 24 c_this_events_most c_this_events_held c_this_events_cells v2_2 1 r19 e19) rfl gX2_happenTo_X1_cell ⟨rfl, rfl⟩ 2 hd_X1_cell ⟨Nat.le_of_ble_eq_true rfl, Nat.le_of_ble_eq_true rfl⟩ rfl 1 rfl rfl rfl [1, 2] rfl (srt_nd 0 rfl) (ws' := w_X2_happenTo (xG g) a_this a_this_table a_this_numbers a_this_images a_this_seen a_this_events a_this_book a_this_events_cells a_p1 a_p1_gaps c_this_events_most c_this_events_held c_this_events_cells c_p1_size p1_gaps_2) (Put.m rfl rfl rfl) rfl (rest := []) rfl (Nat.le_of_ble_eq_true rfl) ⟨Nat.zero_le _, Nat.zero_le _⟩ ?_
    refine r_istore_n C (pc := 22) dX2_happenTo_22 rfl (by decide) (L' := [(0, .ref a_this), (1, .ref a_p1), (2, .int (jz v2_2)), (3, .int (jz r19))]) rfl ?_
    refine r_aload_n C (pc := 23) dX2_happenTo_23 rfl 0 rfl ?_
    refine r_get C (pc := 24) dX2_happenTo_24 gf_X2_happenTo_34 0 rfl rfl ?_
    refine r_iload_n C (pc := 27) dX2_happenTo_27 rfl 2 rfl ?_
    refine r_iconst C (pc := 28) dX2_happenTo_28 ?_
    obtain ⟨r29, e29, h⟩ := wp_b1 h
    refine b_cVi C (pc := 29) dX2_happenTo_29 (c_X1_cell (xl g) (xG g) a_this_events a_this_events_cells 24 c_this_events_most c_this_events_held c_this_events_cells v2_2 0 r29 e29) rfl gX2_happenTo_X1_cell ⟨rfl, rfl⟩ 2 hd_X1_cell ⟨Nat.le_of_ble_eq_true rfl, Nat.le_of_ble_eq_true rfl⟩ rfl 1 rfl rfl rfl [1, 2] rfl (srt_nd 0 rfl) (ws' := w_X2_happenTo (xG g) a_this a_this_table a_this_numbers a_this_images a_this_seen a_this_events a_this_book a_this_events_cells a_p1 a_p1_gaps c_this_events_most c_this_events_held c_this_events_cells c_p1_size p1_gaps_2) (Put.m rfl rfl rfl) rfl (rest := []) rfl (Nat.le_of_ble_eq_true rfl) ⟨Nat.zero_le _, Nat.zero_le _⟩ ?_
    refine jn_e (fun (k80 : (Nat → Int) → Option (Nat → Int)) => ∀ (p1_gaps_80 : Nat → Int), wp (k80 p1_gaps_80) K → WW g 0 0 (w_X2_happenTo (xG g) a_this a_this_table a_this_numbers a_this_images a_this_seen a_this_events a_this_book a_this_events_cells a_p1 a_p1_gaps c_this_events_most c_this_events_held c_this_events_cells c_p1_size p1_gaps_80) 80 [(0, .ref a_this), (1, .ref a_p1), (2, .int (jz v2_2))] []) h (fun p1_gaps_80 h => ?_) (fun k80 hk80 h => ?_)
    · refine r_iinc C (pc := 80) dX2_happenTo_80 2 rfl (by decide) (L' := [(0, .ref a_this), (1, .ref a_p1), (2, .int (jz (v2_2 + 1)))]) rfl ?_
      refine r_goto C (pc := 83) 2 dX2_happenTo_83 rfl ?_
      exact hn2 (v2_2 + 1) p1_gaps_80 h
    · refine sw1 h (fun b32_0 h => ?_) (fun b32_0 h => ?_)
      · refine r_lookup C (pc := 32) 60 dX2_happenTo_32 (by decide) (lk_eq (z := 0) b32_0 _ _ rfl) rfl ?_
        refine r_aload_n C (pc := 60) dX2_happenTo_60 rfl 1 rfl ?_
        refine r_iload_n C (pc := 61) dX2_happenTo_61 rfl 3 rfl ?_
        obtain ⟨p1_gaps_62, e62, h⟩ := wp_b1 h
        refine b_cSv C (pc := 62) dX2_happenTo_62 (c_X2_moveAway (xl g) (xG g) a_p1 a_p1_gaps c_p1_size p1_gaps_2 r19 p1_gaps_62 e62) rfl gX2_happenTo_X2_moveAway ⟨rfl, rfl⟩ 2 hd_X2_moveAway ⟨Nat.le_of_ble_eq_true rfl, Nat.le_of_ble_eq_true rfl⟩ rfl [3, 4] rfl (srt_nd 0 rfl) (ws' := w_X2_happenTo (xG g) a_this a_this_table a_this_numbers a_this_images a_this_seen a_this_events a_this_book a_this_events_cells a_p1 a_p1_gaps c_this_events_most c_this_events_held c_this_events_cells c_p1_size p1_gaps_62) (Put.m rfl rfl rfl) rfl (rest := []) rfl (Nat.le_of_ble_eq_true rfl) ⟨Nat.zero_le _, Nat.zero_le _⟩ ?_
        refine r_goto C (pc := 65) 80 dX2_happenTo_65 rfl ?_
        refine r_sub [0, 1, 2] rfl ?_
        exact hk80 p1_gaps_62 h
      · refine sw1 h (fun b32_1 h => ?_) (fun b32_1 h => ?_)
        · refine r_lookup C (pc := 32) 68 dX2_happenTo_32 (by decide) ((lk_ne (z := 0) b32_0 rfl).trans (lk_eq (z := 1) b32_1 _ _ rfl)) rfl ?_
          refine r_aload_n C (pc := 68) dX2_happenTo_68 rfl 1 rfl ?_
          refine r_iload_n C (pc := 69) dX2_happenTo_69 rfl 3 rfl ?_
          obtain ⟨p1_gaps_70, e70, h⟩ := wp_b1 h
          refine b_cSv C (pc := 70) dX2_happenTo_70 (c_X2_drawTogether (xl g) (xG g) a_p1 a_p1_gaps c_p1_size p1_gaps_2 r19 p1_gaps_70 e70) rfl gX2_happenTo_X2_drawTogether ⟨rfl, rfl⟩ 2 hd_X2_drawTogether ⟨Nat.le_of_ble_eq_true rfl, Nat.le_of_ble_eq_true rfl⟩ rfl [3, 4] rfl (srt_nd 0 rfl) (ws' := w_X2_happenTo (xG g) a_this a_this_table a_this_numbers a_this_images a_this_seen a_this_events a_this_book a_this_events_cells a_p1 a_p1_gaps c_this_events_most c_this_events_held c_this_events_cells c_p1_size p1_gaps_70) (Put.m rfl rfl rfl) rfl (rest := []) rfl (Nat.le_of_ble_eq_true rfl) ⟨Nat.zero_le _, Nat.zero_le _⟩ ?_
          refine r_goto C (pc := 73) 80 dX2_happenTo_73 rfl ?_
          refine r_sub [0, 1, 2] rfl ?_
          exact hk80 p1_gaps_70 h
        · refine r_lookup C (pc := 32) 76 dX2_happenTo_32 (by decide) ((lk_ne (z := 0) b32_0 rfl).trans ((lk_ne (z := 1) b32_1 rfl).trans (rfl))) rfl ?_
          refine r_aload_n C (pc := 76) dX2_happenTo_76 rfl 1 rfl ?_
          obtain ⟨p1_gaps_77, e77, h⟩ := wp_b1 h
          refine b_cVv C (pc := 77) dX2_happenTo_77 (c_X4_takeShortWays (xl g) (xG g) a_p1 a_p1_gaps c_p1_size p1_gaps_2 p1_gaps_77 e77) rfl gX2_happenTo_X4_takeShortWays ⟨rfl, rfl⟩ 0 hd_X4_takeShortWays ⟨Nat.le_of_ble_eq_true rfl, Nat.le_of_ble_eq_true rfl⟩ rfl 3 rfl rfl rfl [3, 4] rfl (srt_nd 0 rfl) (ws' := w_X2_happenTo (xG g) a_this a_this_table a_this_numbers a_this_images a_this_seen a_this_events a_this_book a_this_events_cells a_p1 a_p1_gaps c_this_events_most c_this_events_held c_this_events_cells c_p1_size p1_gaps_77) (Put.m rfl rfl rfl) rfl (rest := []) rfl (Nat.le_of_ble_eq_true rfl) ⟨Nat.zero_le _, Nat.zero_le _⟩ ?_
          refine r_sub [0, 1, 2] rfl ?_
          exact hk80 p1_gaps_77 h
theorem c_X2_happenTo (l : Launch) (G : gG) (a_this : Nat) (a_this_table : Nat) (a_this_numbers : Nat) (a_this_images : Nat) (a_this_seen : Nat) (a_this_events : Nat) (a_this_book : Nat) (a_this_events_cells : Nat) (a_p1 : Nat) (a_p1_gaps : Nat) (c_this_events_most : Int) (c_this_events_held : Int) (c_this_events_cells : Nat → Int) (c_p1_size : Int) (c_p1_gaps : Nat → Int) (o0 : Nat → Int) (hf : f_X2_happenTo c_this_events_held c_this_events_cells c_p1_size c_p1_gaps = some o0) : CTv l yX2_happenTo wsX2_happenTo rm_X2_happenTo G (w_X2_happenTo G a_this a_this_table a_this_numbers a_this_images a_this_seen a_this_events a_this_book a_this_events_cells a_p1 a_p1_gaps c_this_events_most c_this_events_held c_this_events_cells c_p1_size c_p1_gaps) [.ref a_this, .ref a_p1] (w_X2_happenTo G a_this a_this_table a_this_numbers a_this_images a_this_seen a_this_events a_this_book a_this_events_cells a_p1 a_p1_gaps c_this_events_most c_this_events_held c_this_events_cells c_p1_size o0) := CTv_of (by decide) rfl rfl (Nat.le_of_ble_eq_true rfl) (fun g C hG hl hF => by
    subst hG
    subst hl
    exact k_X2_happenTo C a_this a_this_table a_this_numbers a_this_images a_this_seen a_this_events a_this_book a_this_events_cells a_p1 a_p1_gaps c_this_events_most c_this_events_held c_this_events_cells c_p1_size c_p1_gaps (fun x => x = o0) (fun o0' e => by cases e; exact hF) ⟨_, hf, rfl⟩)

-- TightHulls$Setup.firstWrongInBook()I
def f_X2_firstWrongInBook (c_this_table_size : Int) (c_this_table_gaps : Nat → Int) (c_this_book_held : Int) (c_this_book_cells : Nat → Int) : Option Int := lq1 (fun (n2 : Int → Option Int) (v1_2 : Int) => if ltI v1_2 c_this_book_held = true then (bd1 (f_X1_cell v1_2 0 24 c_this_book_held c_this_book_cells) (fun r19 => bd1 (f_X1_cell v1_2 1 24 c_this_book_held c_this_book_cells) (fun r29 => bd1 (f_X4_areTwo r19 r29 c_this_table_size) (fun r39 => jn (some v1_2) (fun (k66 : Option Int) => if eqI r39 0 = true then k66 else (bd1 (f_X4_gap r19 r29 c_this_table_size c_this_table_gaps) (fun r51 => bd1 (f_X1_cell v1_2 2 24 c_this_book_held c_this_book_cells) (fun r60 => if eqI r51 r60 = true then (n2 (v1_2 + 1)) else k66)))))))) else (some (-5))) 300 0
abbrev rm_X2_firstWrongInBook : Room := { frames := 1, cells := 0, slots := 0, locals := 23 }
abbrev w_X2_firstWrongInBook (G : gG) (a_this : Nat) (a_this_table : Nat) (a_this_numbers : Nat) (a_this_images : Nat) (a_this_seen : Nat) (a_this_events : Nat) (a_this_book : Nat) (a_this_table_gaps : Nat) (a_this_book_cells : Nat) (c_this_table_size : Int) (c_this_table_gaps : Nat → Int) (c_this_book_most : Int) (c_this_book_held : Int) (c_this_book_cells : Nat → Int) : va_W := [(a_this, .inr (2, [.ref a_this_table, .ref a_this_numbers, .ref a_this_images, .ref a_this_seen, .ref a_this_events, .ref a_this_book])), (a_this_table, .inr (4, [.int (jz c_this_table_size), .ref a_this_table_gaps])), (a_this_table_gaps, aI G 25 c_this_table_gaps), (a_this_book, .inr (1, [.int (jz c_this_book_most), .ref a_this_book_cells, .int (jz c_this_book_held)])), (a_this_book_cells, aI G 24 c_this_book_cells)]
theorem hd_X2_firstWrongInBook : yX2_firstWrongInBook.cls = RX2 ∧ yX2_firstWrongInBook.cls ≠ "java/lang/invoke/MethodHandle" ∧ yX2_firstWrongInBook.cls ≠ "java/lang/invoke/VarHandle" ∧ (parseMethodDescriptor yX2_firstWrongInBook.desc).map (fun d => d.parameters.length) = some 0 := by decide +kernel
theorem in_X2_firstWrongInBook_X2 : ∀ w ∈ u_ws RX2 TX2 6, w ∈ wsX2_firstWrongInBook := fun w h => List.mem_cons_of_mem _ (List.mem_append_left _ (List.mem_append_left _ (List.mem_append_right _ (h))))
theorem gf_X2_firstWrongInBook_37 : GF wsX2_firstWrongInBook RX2 37 2 5 := ⟨RX2, TX2, 6, rfl, in_X2_firstWrongInBook_X2, by decide, List.mem_of_getElem? (i := 1) rfl⟩
theorem in_X2_firstWrongInBook_X1 : ∀ w ∈ u_ws RX1 TX1 3, w ∈ wsX2_firstWrongInBook := fun w h => List.mem_cons_of_mem _ (List.mem_append_left _ (List.mem_append_right _ (h)))
theorem gf_X2_firstWrongInBook_95 : GF wsX2_firstWrongInBook RX2 95 1 2 := ⟨RX1, TX1, 3, rfl, in_X2_firstWrongInBook_X1, by decide, List.mem_of_getElem? (i := 2) rfl⟩
theorem gf_X2_firstWrongInBook_12 : GF wsX2_firstWrongInBook RX2 12 2 0 := ⟨RX2, TX2, 6, rfl, in_X2_firstWrongInBook_X2, by decide, List.mem_of_getElem? (i := 3) rfl⟩
set_option maxRecDepth 100000 in
set_option maxHeartbeats 4000000 in
theorem k_X2_firstWrongInBook {g : XC} (C : XOk g cX2_firstWrongInBook RX2 wsX2_firstWrongInBook rm_X2_firstWrongInBook 4) (a_this : Nat) (a_this_table : Nat) (a_this_numbers : Nat) (a_this_images : Nat) (a_this_seen : Nat) (a_this_events : Nat) (a_this_book : Nat) (a_this_table_gaps : Nat) (a_this_book_cells : Nat) (c_this_table_size : Int) (c_this_table_gaps : Nat → Int) (c_this_book_most : Int) (c_this_book_held : Int) (c_this_book_cells : Nat → Int)  (K : Int → Prop) (hK : ∀ (r : Int), K r → (narrow .int (.int (jz r)) = .int (jz r) → FinI g 0 0 (w_X2_firstWrongInBook (xG g) a_this a_this_table a_this_numbers a_this_images a_this_seen a_this_events a_this_book a_this_table_gaps a_this_book_cells c_this_table_size c_this_table_gaps c_this_book_most c_this_book_held c_this_book_cells) (jz r))) (h : wp (f_X2_firstWrongInBook c_this_table_size c_this_table_gaps c_this_book_held c_this_book_cells) K) : WW g 0 0 (w_X2_firstWrongInBook (xG g) a_this a_this_table a_this_numbers a_this_images a_this_seen a_this_events a_this_book a_this_table_gaps a_this_book_cells c_this_table_size c_this_table_gaps c_this_book_most c_this_book_held c_this_book_cells) 0 [(0, .ref a_this)] [] := by
  unfold f_X2_firstWrongInBook at h
  refine r_iconst C (pc := 0) dX2_firstWrongInBook_0 ?_
  refine r_istore_n C (pc := 1) dX2_firstWrongInBook_1 rfl (by decide) (L' := [(0, .ref a_this), (1, .int (jz 0))]) rfl ?_
  refine lq1_e (fun (v1_2 : Int) => WW g 0 0 (w_X2_firstWrongInBook (xG g) a_this a_this_table a_this_numbers a_this_images a_this_seen a_this_events a_this_book a_this_table_gaps a_this_book_cells c_this_table_size c_this_table_gaps c_this_book_most c_this_book_held c_this_book_cells) 2 [(0, .ref a_this), (1, .int (jz v1_2))] []) h (fun n2 hn2 v1_2 h => ?_)
  refine r_iload_n C (pc := 2) dX2_firstWrongInBook_2 rfl 1 rfl ?_
  refine r_aload_n C (pc := 3) dX2_firstWrongInBook_3 rfl 0 rfl ?_
  refine r_get C (pc := 4) dX2_firstWrongInBook_4 gf_X2_firstWrongInBook_37 0 rfl rfl ?_
  refine r_get C (pc := 7) dX2_firstWrongInBook_7 gf_X2_firstWrongInBook_95 3 rfl rfl ?_
  refine r_icmp_ge C (pc := 10) 74 dX2_firstWrongInBook_10 rfl h (fun c10 h => ?_) (fun c10 h => ?_)
  · refine r_bipush C (pc := 74) dX2_firstWrongInBook_74 rfl ?_
    exact r_iret C (pc := 76) dX2_firstWrongInBook_76 (hK (-5) (wp_s h) rfl)
  · refine r_aload_n C (pc := 13) dX2_firstWrongInBook_13 rfl 0 rfl ?_
    refine r_get C (pc := 14) dX2_firstWrongInBook_14 gf_X2_firstWrongInBook_37 0 rfl rfl ?_
    refine r_iload_n C (pc := 17) dX2_firstWrongInBook_17 rfl 1 rfl ?_
    refine r_iconst C (pc := 18) dX2_firstWrongInBook_18 ?_
    obtain ⟨r19, e19, h⟩ := wp_b1 h
    refine b_cVi C (pc := 19) dX2_firstWrongInBook_19 (c_X1_cell (xl g) (xG g) a_this_book a_this_book_cells 24 c_this_book_most c_this_book_held c_this_book_cells v1_2 0 r19 e19) rfl gX2_firstWrongInBook_X1_cell ⟨rfl, rfl⟩ 2 hd_X1_cell ⟨Nat.le_of_ble_eq_true rfl, Nat.le_of_ble_eq_true rfl⟩ rfl 3 rfl rfl rfl [3, 4] rfl (srt_nd 0 rfl) (ws' := w_X2_firstWrongInBook (xG g) a_this a_this_table a_this_numbers a_this_images a_this_seen a_this_events a_this_book a_this_table_gaps a_this_book_cells c_this_table_size c_this_table_gaps c_this_book_most c_this_book_held c_this_book_cells) (Put.m rfl rfl rfl) rfl (rest := []) rfl (Nat.le_of_ble_eq_true rfl) ⟨Nat.zero_le _, Nat.zero_le _⟩ ?_
    refine r_istore_n C (pc := 22) dX2_firstWrongInBook_22 rfl (by decide) (L' := [(0, .ref a_this), (1, .int (jz v1_2)), (2, .int (jz r19))]) rfl ?_
    refine r_aload_n C (pc := 23) dX2_firstWrongInBook_23 rfl 0 rfl ?_
    refine r_get C (pc := 24) dX2_firstWrongInBook_24 gf_X2_firstWrongInBook_37 0 rfl rfl ?_
    refine r_iload_n C (pc := 27) dX2_firstWrongInBook_27 rfl 1 rfl ?_
    refine r_iconst C (pc := 28) dX2_firstWrongInBook_28 ?_
    obtain ⟨r29, e29, h⟩ := wp_b1 h
    refine b_cVi C (pc := 29) dX2_firstWrongInBook_29 (c_X1_cell (xl g) (xG g) a_this_book a_this_book_cells 24 c_this_book_most c_this_book_held c_this_book_cells v1_2 1 r29 e29) rfl gX2_firstWrongInBook_X1_cell ⟨rfl, rfl⟩ 2 hd_X1_cell ⟨Nat.le_of_ble_eq_true rfl, Nat.le_of_ble_eq_true rfl⟩ rfl 3 rfl rfl rfl [3, 4] rfl (srt_nd 0 rfl) (ws' := w_X2_firstWrongInBook (xG g) a_this a_this_table a_this_numbers a_this_images a_this_seen a_this_events a_this_book a_this_table_gaps a_this_book_cells c_this_table_size c_this_table_gaps c_this_book_most c_this_book_held c_this_book_cells) (Put.m rfl rfl rfl) rfl (rest := []) rfl (Nat.le_of_ble_eq_true rfl) ⟨Nat.zero_le _, Nat.zero_le _⟩ ?_
    refine r_istore_n C (pc := 32) dX2_firstWrongInBook_32 rfl (by decide) (L' := [(0, .ref a_this), (1, .int (jz v1_2)), (2, .int (jz r19)), (3, .int (jz r29))]) rfl ?_
    refine r_aload_n C (pc := 33) dX2_firstWrongInBook_33 rfl 0 rfl ?_
    refine r_get C (pc := 34) dX2_firstWrongInBook_34 gf_X2_firstWrongInBook_12 0 rfl rfl ?_
    refine r_iload_n C (pc := 37) dX2_firstWrongInBook_37 rfl 2 rfl ?_
    refine r_iload_n C (pc := 38) dX2_firstWrongInBook_38 rfl 3 rfl ?_
    obtain ⟨r39, e39, h⟩ := wp_b1 h
    refine b_cVi C (pc := 39) dX2_firstWrongInBook_39 (c_X4_areTwo (xl g) (xG g) a_this_table a_this_table_gaps c_this_table_size r19 r29 r39 e39) rfl gX2_firstWrongInBook_X4_areTwo ⟨rfl, rfl⟩ 2 hd_X4_areTwo ⟨Nat.le_of_ble_eq_true rfl, Nat.le_of_ble_eq_true rfl⟩ rfl 1 rfl rfl rfl [1] rfl (srt_nd 0 rfl) (ws' := w_X2_firstWrongInBook (xG g) a_this a_this_table a_this_numbers a_this_images a_this_seen a_this_events a_this_book a_this_table_gaps a_this_book_cells c_this_table_size c_this_table_gaps c_this_book_most c_this_book_held c_this_book_cells) (Put.m rfl rfl rfl) rfl (rest := []) rfl (Nat.le_of_ble_eq_true rfl) ⟨Nat.zero_le _, Nat.zero_le _⟩ ?_
    refine jn_e (fun (k66 : Option Int) => wp (k66) K → WW g 0 0 (w_X2_firstWrongInBook (xG g) a_this a_this_table a_this_numbers a_this_images a_this_seen a_this_events a_this_book a_this_table_gaps a_this_book_cells c_this_table_size c_this_table_gaps c_this_book_most c_this_book_held c_this_book_cells) 66 [(1, .int (jz v1_2))] []) h (fun h => ?_) (fun k66 hk66 h => ?_)
    · refine r_iload_n C (pc := 66) dX2_firstWrongInBook_66 rfl 0 rfl ?_
      exact r_iret C (pc := 67) dX2_firstWrongInBook_67 (hK v1_2 (wp_s h) rfl)
    · refine r_if_eq C (pc := 42) 66 dX2_firstWrongInBook_42 rfl h (fun c42 h => ?_) (fun c42 h => ?_)
      · refine r_sub [1] rfl ?_
        exact hk66 h
      · refine r_aload_n C (pc := 45) dX2_firstWrongInBook_45 rfl 0 rfl ?_
        refine r_get C (pc := 46) dX2_firstWrongInBook_46 gf_X2_firstWrongInBook_12 0 rfl rfl ?_
        refine r_iload_n C (pc := 49) dX2_firstWrongInBook_49 rfl 2 rfl ?_
        refine r_iload_n C (pc := 50) dX2_firstWrongInBook_50 rfl 3 rfl ?_
        obtain ⟨r51, e51, h⟩ := wp_b1 h
        refine b_cVi C (pc := 51) dX2_firstWrongInBook_51 (c_X4_gap (xl g) (xG g) a_this_table a_this_table_gaps c_this_table_size c_this_table_gaps r19 r29 r51 e51) rfl gX2_firstWrongInBook_X4_gap ⟨rfl, rfl⟩ 2 hd_X4_gap ⟨Nat.le_of_ble_eq_true rfl, Nat.le_of_ble_eq_true rfl⟩ rfl 1 rfl rfl rfl [1, 2] rfl (srt_nd 0 rfl) (ws' := w_X2_firstWrongInBook (xG g) a_this a_this_table a_this_numbers a_this_images a_this_seen a_this_events a_this_book a_this_table_gaps a_this_book_cells c_this_table_size c_this_table_gaps c_this_book_most c_this_book_held c_this_book_cells) (Put.m rfl rfl rfl) rfl (rest := []) rfl (Nat.le_of_ble_eq_true rfl) ⟨Nat.zero_le _, Nat.zero_le _⟩ ?_
        refine r_aload_n C (pc := 54) dX2_firstWrongInBook_54 rfl 0 rfl ?_
        refine r_get C (pc := 55) dX2_firstWrongInBook_55 gf_X2_firstWrongInBook_37 0 rfl rfl ?_
        refine r_iload_n C (pc := 58) dX2_firstWrongInBook_58 rfl 1 rfl ?_
        refine r_iconst C (pc := 59) dX2_firstWrongInBook_59 ?_
        obtain ⟨r60, e60, h⟩ := wp_b1 h
        refine b_cVi C (pc := 60) dX2_firstWrongInBook_60 (c_X1_cell (xl g) (xG g) a_this_book a_this_book_cells 24 c_this_book_most c_this_book_held c_this_book_cells v1_2 2 r60 e60) rfl gX2_firstWrongInBook_X1_cell ⟨rfl, rfl⟩ 2 hd_X1_cell ⟨Nat.le_of_ble_eq_true rfl, Nat.le_of_ble_eq_true rfl⟩ rfl 3 rfl rfl rfl [3, 4] rfl (srt_nd 0 rfl) (ws' := w_X2_firstWrongInBook (xG g) a_this a_this_table a_this_numbers a_this_images a_this_seen a_this_events a_this_book a_this_table_gaps a_this_book_cells c_this_table_size c_this_table_gaps c_this_book_most c_this_book_held c_this_book_cells) (Put.m rfl rfl rfl) rfl (rest := [.int (jz r51)]) rfl (Nat.le_of_ble_eq_true rfl) ⟨Nat.zero_le _, Nat.zero_le _⟩ ?_
        refine r_icmp_eq C (pc := 63) 68 dX2_firstWrongInBook_63 rfl h (fun c63 h => ?_) (fun c63 h => ?_)
        · refine r_iinc C (pc := 68) dX2_firstWrongInBook_68 1 rfl (by decide) (L' := [(0, .ref a_this), (1, .int (jz (v1_2 + 1))), (2, .int (jz r19)), (3, .int (jz r29))]) rfl ?_
          refine r_goto C (pc := 71) 2 dX2_firstWrongInBook_71 rfl ?_
          refine r_sub [0, 1] rfl ?_
          exact hn2 (v1_2 + 1) h
        · refine r_sub [1] rfl ?_
          exact hk66 h
theorem c_X2_firstWrongInBook (l : Launch) (G : gG) (a_this : Nat) (a_this_table : Nat) (a_this_numbers : Nat) (a_this_images : Nat) (a_this_seen : Nat) (a_this_events : Nat) (a_this_book : Nat) (a_this_table_gaps : Nat) (a_this_book_cells : Nat) (c_this_table_size : Int) (c_this_table_gaps : Nat → Int) (c_this_book_most : Int) (c_this_book_held : Int) (c_this_book_cells : Nat → Int) (r : Int) (hf : f_X2_firstWrongInBook c_this_table_size c_this_table_gaps c_this_book_held c_this_book_cells = some r) : CTi l yX2_firstWrongInBook wsX2_firstWrongInBook rm_X2_firstWrongInBook G (w_X2_firstWrongInBook G a_this a_this_table a_this_numbers a_this_images a_this_seen a_this_events a_this_book a_this_table_gaps a_this_book_cells c_this_table_size c_this_table_gaps c_this_book_most c_this_book_held c_this_book_cells) [.ref a_this] (jz r) (w_X2_firstWrongInBook G a_this a_this_table a_this_numbers a_this_images a_this_seen a_this_events a_this_book a_this_table_gaps a_this_book_cells c_this_table_size c_this_table_gaps c_this_book_most c_this_book_held c_this_book_cells) := CTi_of (by decide) rfl rfl (Nat.le_of_ble_eq_true rfl) (fun g C hG hl hF => by
    subst hG
    subst hl
    exact k_X2_firstWrongInBook C a_this a_this_table a_this_numbers a_this_images a_this_seen a_this_events a_this_book a_this_table_gaps a_this_book_cells c_this_table_size c_this_table_gaps c_this_book_most c_this_book_held c_this_book_cells (fun x => x = r) (fun r' e => by cases e; exact hF) ⟨_, hf, rfl⟩)
