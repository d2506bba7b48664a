-- TightHullsModel.takes(I)Z
def f_X9_takes (p1 : Int) (m_texts : Int) (m_place : Int) (c_this_text : Nat → Int) : Option (Int × Int) := jn (some (0, m_place)) (fun (k24 : Option (Int × Int)) => if eqI m_place m_texts = true then k24 else (grd (iin m_place 100) (if eqI (c_this_text (ix m_place)) p1 = true then (lv ((m_place + 1)) (fun x33 => some (1, x33))) else k24)))
abbrev rm_X9_takes : Room := { frames := 0, cells := 0, slots := 0, locals := 0 }
abbrev w_X9_takes (G : gG) (q : Nat → Nat) (F : Nat → Int) (c_this_text : Nat → Int) : va_W := [((q 35), oX9 F q), ((q 14), aI G 100 c_this_text)]
theorem hd_X9_takes : yX9_takes.cls = RX9 ∧ yX9_takes.cls ≠ "java/lang/invoke/MethodHandle" ∧ yX9_takes.cls ≠ "java/lang/invoke/VarHandle" ∧ (parseMethodDescriptor yX9_takes.desc).map (fun d => d.parameters.length) = some 1 := by decide +kernel
theorem in_X9_takes_X9 : ∀ w ∈ u_ws RX9 TX9 35, w ∈ wsX9_takes := fun w h => List.mem_cons_of_mem _ (List.mem_append_right _ (h))
theorem gf_X9_takes_264 : GF wsX9_takes RX9 264 8 27 := ⟨RX9, TX9, 35, rfl, in_X9_takes_X9, by decide, List.mem_of_getElem? (i := 1) rfl⟩
theorem gf_X9_takes_261 : GF wsX9_takes RX9 261 8 15 := ⟨RX9, TX9, 35, rfl, in_X9_takes_X9, by decide, List.mem_of_getElem? (i := 2) rfl⟩
theorem gf_X9_takes_46 : GF wsX9_takes RX9 46 8 14 := ⟨RX9, TX9, 35, rfl, in_X9_takes_X9, by decide, List.mem_of_getElem? (i := 3) rfl⟩
theorem pf_X9_takes_264 : PF wsX9_takes RX9 264 8 27 .int false := ⟨RX9, TX9, 35, tyX9, rfl, in_X9_takes_X9, tyX9_ok, nmX9, by decide, List.mem_of_getElem? (i := 1) rfl, rfl, rfl, rfl⟩
set_option maxRecDepth 100000 in
set_option maxHeartbeats 4000000 in
theorem k_X9_takes {g : XC} (C : XOk g cX9_takes RX9 wsX9_takes rm_X9_takes 2) (q : Nat → Nat) (F : Nat → Int) (c_this_text : Nat → Int) (p1 : Int) (K : (Int × Int) → Prop) (hK : ∀ (r : Int) (o0 : Int), K (r, o0) → (narrow .boolean (.int (jz r)) = .int (jz r) → FinI g 0 0 (w_X9_takes (xG g) q (up F 27 o0) c_this_text) (jz r))) (h : wp (f_X9_takes p1 (F 15) (F 27) c_this_text) K) : WW g 0 0 (w_X9_takes (xG g) q F c_this_text) 0 [(0, .ref (q 35)), (1, .int (jz p1))] [] := by
  unfold f_X9_takes at h
  refine r_aload_n C (pc := 0) dX9_takes_0 rfl 0 rfl ?_
  refine r_get C (pc := 1) dX9_takes_1 gf_X9_takes_264 0 rfl rfl ?_
  refine r_aload_n C (pc := 4) dX9_takes_4 rfl 0 rfl ?_
  refine r_get C (pc := 5) dX9_takes_5 gf_X9_takes_261 0 rfl rfl ?_
  refine jn_e (fun (k24 : Option (Int × Int)) => wp (k24) K → WW g 0 0 (w_X9_takes (xG g) q F c_this_text) 24 [] []) h (fun h => ?_) (fun k24 hk24 h => ?_)
  · refine r_iconst C (pc := 24) dX9_takes_24 ?_
    exact r_iret C (pc := 25) dX9_takes_25 (hK 0 (F 27) (wp_s h) (nB rfl).1)
  · refine r_icmp_eq C (pc := 8) 24 dX9_takes_8 rfl h (fun c8 h => ?_) (fun c8 h => ?_)
    · refine r_sub [] rfl ?_
      exact hk24 h
    · refine r_aload_n C (pc := 11) dX9_takes_11 rfl 0 rfl ?_
      refine r_get C (pc := 12) dX9_takes_12 gf_X9_takes_46 0 rfl rfl ?_
      refine r_aload_n C (pc := 15) dX9_takes_15 rfl 0 rfl ?_
      refine r_get C (pc := 16) dX9_takes_16 gf_X9_takes_264 0 rfl rfl ?_
      refine r_iald C (pc := 19) dX9_takes_19 h 1 rfl (fun h => ?_)
      refine r_iload_n C (pc := 20) dX9_takes_20 rfl 1 rfl ?_
      refine r_icmp_eq C (pc := 21) 26 dX9_takes_21 rfl h (fun c21 h => ?_) (fun c21 h => ?_)
      · refine r_aload_n C (pc := 26) dX9_takes_26 rfl 0 rfl ?_
        refine r_dup C (pc := 27) dX9_takes_27 rfl ?_
        refine r_get C (pc := 28) dX9_takes_28 gf_X9_takes_264 0 rfl rfl ?_
        refine r_iconst C (pc := 31) dX9_takes_31 ?_
        refine r_iadd C (pc := 32) dX9_takes_32 ?_
        refine r_let h (fun x33 h => ?_)
        refine r_puti C (pc := 33) dX9_takes_33 pf_X9_takes_264 0 rfl (Nat.le_of_ble_eq_true rfl) (ws' := w_X9_takes (xG g) q (up F 27 x33) c_this_text) rfl ?_
        refine r_iconst C (pc := 36) dX9_takes_36 ?_
        exact r_iret C (pc := 37) dX9_takes_37 (hK 1 x33 (wp_s h) (nB rfl).1)
      · refine r_sub [] rfl ?_
        exact hk24 h
theorem c_X9_takes (l : Launch) (G : gG) (q : Nat → Nat) (F : Nat → Int) (c_this_text : Nat → Int) (p1 : Int) (r : Int) (o0 : Int) (hf : f_X9_takes p1 (F 15) (F 27) c_this_text = some (r, o0)) : CTi l yX9_takes wsX9_takes rm_X9_takes G (w_X9_takes G q F c_this_text) [.ref (q 35), .int (jz p1)] (jz r) (w_X9_takes G q (up F 27 o0) c_this_text) := CTi_of (by decide) rfl rfl (Nat.le_of_ble_eq_true rfl) (fun g C hG hl hF => by
    subst hG
    subst hl
    exact k_X9_takes C q F c_this_text p1 (fun x => x = (r, o0)) (fun r' o0' e => by cases e; exact hF) ⟨_, hf, rfl⟩)

-- TightHullsModel.digit()I
def f_X9_digit (m_place : Int) (c_this_text : Nat → Int) : Option (Int × Int) := lv ((m_place + 1)) (fun x7 => grd (iin (x7 - 1) 100) (some (((c_this_text (ix (x7 - 1))) - 48), x7)))
abbrev rm_X9_digit : Room := { frames := 0, cells := 0, slots := 0, locals := 0 }
abbrev w_X9_digit (G : gG) (q : Nat → Nat) (F : Nat → Int) (c_this_text : Nat → Int) : va_W := [((q 35), oX9 F q), ((q 14), aI G 100 c_this_text)]
theorem hd_X9_digit : yX9_digit.cls = RX9 ∧ yX9_digit.cls ≠ "java/lang/invoke/MethodHandle" ∧ yX9_digit.cls ≠ "java/lang/invoke/VarHandle" ∧ (parseMethodDescriptor yX9_digit.desc).map (fun d => d.parameters.length) = some 0 := by decide +kernel
theorem in_X9_digit_X9 : ∀ w ∈ u_ws RX9 TX9 35, w ∈ wsX9_digit := fun w h => List.mem_cons_of_mem _ (List.mem_append_right _ (h))
theorem gf_X9_digit_264 : GF wsX9_digit RX9 264 8 27 := ⟨RX9, TX9, 35, rfl, in_X9_digit_X9, by decide, List.mem_of_getElem? (i := 1) rfl⟩
theorem pf_X9_digit_264 : PF wsX9_digit RX9 264 8 27 .int false := ⟨RX9, TX9, 35, tyX9, rfl, in_X9_digit_X9, tyX9_ok, nmX9, by decide, List.mem_of_getElem? (i := 1) rfl, rfl, rfl, rfl⟩
theorem gf_X9_digit_46 : GF wsX9_digit RX9 46 8 14 := ⟨RX9, TX9, 35, rfl, in_X9_digit_X9, by decide, List.mem_of_getElem? (i := 2) rfl⟩
set_option maxRecDepth 100000 in
set_option maxHeartbeats 4000000 in
theorem k_X9_digit {g : XC} (C : XOk g cX9_digit RX9 wsX9_digit rm_X9_digit 1) (q : Nat → Nat) (F : Nat → Int) (c_this_text : Nat → Int)  (K : (Int × Int) → Prop) (hK : ∀ (r : Int) (o0 : Int), K (r, o0) → (narrow .int (.int (jz r)) = .int (jz r) → FinI g 0 0 (w_X9_digit (xG g) q (up F 27 o0) c_this_text) (jz r))) (h : wp (f_X9_digit (F 27) c_this_text) K) : WW g 0 0 (w_X9_digit (xG g) q F c_this_text) 0 [(0, .ref (q 35))] [] := by
  unfold f_X9_digit at h
  refine r_aload_n C (pc := 0) dX9_digit_0 rfl 0 rfl ?_
  refine r_dup C (pc := 1) dX9_digit_1 rfl ?_
  refine r_get C (pc := 2) dX9_digit_2 gf_X9_digit_264 0 rfl rfl ?_
  refine r_iconst C (pc := 5) dX9_digit_5 ?_
  refine r_iadd C (pc := 6) dX9_digit_6 ?_
  refine r_let h (fun x7 h => ?_)
  refine r_puti C (pc := 7) dX9_digit_7 pf_X9_digit_264 0 rfl (Nat.le_of_ble_eq_true rfl) (ws' := w_X9_digit (xG g) q (up F 27 x7) c_this_text) rfl ?_
  refine r_aload_n C (pc := 10) dX9_digit_10 rfl 0 rfl ?_
  refine r_get C (pc := 11) dX9_digit_11 gf_X9_digit_46 0 rfl rfl ?_
  refine r_aload_n C (pc := 14) dX9_digit_14 rfl 0 rfl ?_
  refine r_get C (pc := 15) dX9_digit_15 gf_X9_digit_264 0 rfl rfl ?_
  refine r_iconst C (pc := 18) dX9_digit_18 ?_
  refine r_isub C (pc := 19) dX9_digit_19 ?_
  refine r_iald C (pc := 20) dX9_digit_20 h 1 rfl (fun h => ?_)
  refine r_bipush C (pc := 21) dX9_digit_21 rfl ?_
  refine r_isub C (pc := 23) dX9_digit_23 ?_
  exact r_iret C (pc := 24) dX9_digit_24 (hK ((c_this_text (ix (x7 - 1))) - 48) x7 (wp_s h) rfl)
theorem c_X9_digit (l : Launch) (G : gG) (q : Nat → Nat) (F : Nat → Int) (c_this_text : Nat → Int) (r : Int) (o0 : Int) (hf : f_X9_digit (F 27) c_this_text = some (r, o0)) : CTi l yX9_digit wsX9_digit rm_X9_digit G (w_X9_digit G q F c_this_text) [.ref (q 35)] (jz r) (w_X9_digit G q (up F 27 o0) c_this_text) := CTi_of (by decide) rfl rfl (Nat.le_of_ble_eq_true rfl) (fun g C hG hl hF => by
    subst hG
    subst hl
    exact k_X9_digit C q F c_this_text (fun x => x = (r, o0)) (fun r' o0' e => by cases e; exact hF) ⟨_, hf, rfl⟩)

-- TightHullsModel.readNumber()Z
def f_X9_readNumber (m_texts : Int) (m_place : Int) (m_clauses : Int) (c_this_text : Nat → Int) (c_this_toldNumber : Nat → Int) : Option (Int × Int × (Nat → Int)) := bd1 (f_X9_isDigit m_texts m_place c_this_text) (fun r1 => if eqI r1 0 = true then (some (0, m_place, c_this_toldNumber)) else (bd2 (f_X9_digit m_place c_this_text) (fun r10 this_place_10 => bd1 (f_X9_isDigit m_texts this_place_10 c_this_text) (fun r23 => jn (fun (s2_42 : Int) (this_place_42 : Int) => grd (iin m_clauses 12) (some (1, this_place_42, (up c_this_toldNumber (ix m_clauses) s2_42)))) (fun (k42 : Int → Int → Option (Int × Int × (Nat → Int))) => if eqI r23 0 = true then (k42 r10 this_place_10) else (bd2 (f_X9_digit this_place_10 c_this_text) (fun r34 this_place_34 => k42 ((10 * r10) + r34) this_place_34)))))))
abbrev rm_X9_readNumber : Room := { frames := 2, cells := 0, slots := 0, locals := 42 }
abbrev w_X9_readNumber (G : gG) (q : Nat → Nat) (F : Nat → Int) (c_this_text : Nat → Int) (c_this_toldNumber : Nat → Int) : va_W := [((q 35), oX9 F q), ((q 14), aI G 100 c_this_text), ((q 32), aI G 12 c_this_toldNumber)]
theorem hd_X9_readNumber : yX9_readNumber.cls = RX9 ∧ yX9_readNumber.cls ≠ "java/lang/invoke/MethodHandle" ∧ yX9_readNumber.cls ≠ "java/lang/invoke/VarHandle" ∧ (parseMethodDescriptor yX9_readNumber.desc).map (fun d => d.parameters.length) = some 0 := by decide +kernel
theorem in_X9_readNumber_X9 : ∀ w ∈ u_ws RX9 TX9 35, w ∈ wsX9_readNumber := fun w h => List.mem_cons_of_mem _ (List.mem_append_right _ (h))
theorem gf_X9_readNumber_89 : GF wsX9_readNumber RX9 89 8 32 := ⟨RX9, TX9, 35, rfl, in_X9_readNumber_X9, by decide, List.mem_of_getElem? (i := 1) rfl⟩
theorem gf_X9_readNumber_273 : GF wsX9_readNumber RX9 273 8 28 := ⟨RX9, TX9, 35, rfl, in_X9_readNumber_X9, by decide, List.mem_of_getElem? (i := 2) rfl⟩
set_option maxRecDepth 100000 in
set_option maxHeartbeats 4000000 in
theorem k_X9_readNumber {g : XC} (C : XOk g cX9_readNumber RX9 wsX9_readNumber rm_X9_readNumber 2) (q : Nat → Nat) (F : Nat → Int) (c_this_text : Nat → Int) (c_this_toldNumber : Nat → Int)  (K : (Int × Int × (Nat → Int)) → Prop) (hK : ∀ (r : Int) (o0 : Int) (o1 : Nat → Int), K (r, o0, o1) → (narrow .boolean (.int (jz r)) = .int (jz r) → FinI g 0 0 (w_X9_readNumber (xG g) q (up F 27 o0) c_this_text o1) (jz r))) (h : wp (f_X9_readNumber (F 15) (F 27) (F 28) c_this_text c_this_toldNumber) K) : WW g 0 0 (w_X9_readNumber (xG g) q F c_this_text c_this_toldNumber) 0 [(0, .ref (q 35))] [] := by
  unfold f_X9_readNumber at h
  refine r_aload_n C (pc := 0) dX9_readNumber_0 rfl 0 rfl ?_
  obtain ⟨r1, e1, h⟩ := wp_b1 h
  refine b_cVi C (pc := 1) dX9_readNumber_1 (c_X9_isDigit (xl g) (xG g) q F c_this_text r1 e1) rfl gX9_readNumber_X9_isDigit ⟨rfl, rfl⟩ 0 hd_X9_isDigit ⟨Nat.le_of_ble_eq_true rfl, Nat.le_of_ble_eq_true rfl⟩ rfl 0 rfl rfl rfl [0, 1] rfl (srt_nd 0 rfl) (ws' := w_X9_readNumber (xG g) q F c_this_text c_this_toldNumber) (Put.m rfl rfl rfl) rfl (rest := []) rfl (Nat.le_of_ble_eq_true rfl) ⟨Nat.zero_le _, Nat.zero_le _⟩ ?_
  refine r_if_ne C (pc := 4) 9 dX9_readNumber_4 rfl h (fun c4 h => ?_) (fun c4 h => ?_)
  · refine r_aload_n C (pc := 9) dX9_readNumber_9 rfl 0 rfl ?_
    obtain ⟨r10, this_place_10, e10, h⟩ := wp_b2 h
    refine b_cVi C (pc := 10) dX9_readNumber_10 (c_X9_digit (xl g) (xG g) q F c_this_text r10 this_place_10 e10) rfl gX9_readNumber_X9_digit ⟨rfl, rfl⟩ 0 hd_X9_digit ⟨Nat.le_of_ble_eq_true rfl, Nat.le_of_ble_eq_true rfl⟩ rfl 0 rfl rfl rfl [0, 1] rfl (srt_nd 0 rfl) (ws' := w_X9_readNumber (xG g) q (up F 27 this_place_10) c_this_text c_this_toldNumber) (Put.m rfl rfl rfl) rfl (rest := []) rfl (Nat.le_of_ble_eq_true rfl) ⟨Nat.zero_le _, Nat.zero_le _⟩ ?_
    refine r_istore_n C (pc := 13) dX9_readNumber_13 rfl (by decide) (L' := [(0, .ref (q 35)), (1, .int (jz r10))]) rfl ?_
    refine r_aload_n C (pc := 14) dX9_readNumber_14 rfl 0 rfl ?_
    refine r_get C (pc := 15) dX9_readNumber_15 gf_X9_readNumber_89 0 rfl rfl ?_
    refine r_aload_n C (pc := 18) dX9_readNumber_18 rfl 0 rfl ?_
    refine r_get C (pc := 19) dX9_readNumber_19 gf_X9_readNumber_273 0 rfl rfl ?_
    refine r_aload_n C (pc := 22) dX9_readNumber_22 rfl 0 rfl ?_
    obtain ⟨r23, e23, h⟩ := wp_b1 h
    refine b_cVi C (pc := 23) dX9_readNumber_23 (c_X9_isDigit (xl g) (xG g) q (up F 27 this_place_10) c_this_text r23 e23) rfl gX9_readNumber_X9_isDigit ⟨rfl, rfl⟩ 0 hd_X9_isDigit ⟨Nat.le_of_ble_eq_true rfl, Nat.le_of_ble_eq_true rfl⟩ rfl 0 rfl rfl rfl [0, 1] rfl (srt_nd 0 rfl) (ws' := w_X9_readNumber (xG g) q (up F 27 this_place_10) c_this_text c_this_toldNumber) (Put.m rfl rfl rfl) rfl (rest := [.int (jz (F 28)), .ref (q 32)]) rfl (Nat.le_of_ble_eq_true rfl) ⟨Nat.zero_le _, Nat.zero_le _⟩ ?_
    refine jn_e (fun (k42 : Int → Int → Option (Int × Int × (Nat → Int))) => ∀ (s2_42 : Int) (this_place_42 : Int), wp (k42 s2_42 this_place_42) K → WW g 0 0 (w_X9_readNumber (xG g) q (up F 27 this_place_42) c_this_text c_this_toldNumber) 42 [] [.int (jz s2_42), .int (jz (F 28)), .ref (q 32)]) h (fun s2_42 this_place_42 h => ?_) (fun k42 hk42 h => ?_)
    · refine r_iast C (pc := 42) dX9_readNumber_42 h 2 rfl (ws' := w_X9_readNumber (xG g) q (up F 27 this_place_42) c_this_text (up c_this_toldNumber (ix (F 28)) s2_42)) rfl (fun h => ?_)
      refine r_iconst C (pc := 43) dX9_readNumber_43 ?_
      exact r_iret C (pc := 44) dX9_readNumber_44 (hK 1 this_place_42 (up c_this_toldNumber (ix (F 28)) s2_42) (wp_s h) (nB rfl).1)
    · refine r_if_eq C (pc := 26) 41 dX9_readNumber_26 rfl h (fun c26 h => ?_) (fun c26 h => ?_)
      · refine r_iload_n C (pc := 41) dX9_readNumber_41 rfl 1 rfl ?_
        refine r_sub [] rfl ?_
        exact hk42 r10 this_place_10 h
      · refine r_bipush C (pc := 29) dX9_readNumber_29 rfl ?_
        refine r_iload_n C (pc := 31) dX9_readNumber_31 rfl 1 rfl ?_
        refine r_imul C (pc := 32) dX9_readNumber_32 ?_
        refine r_aload_n C (pc := 33) dX9_readNumber_33 rfl 0 rfl ?_
        obtain ⟨r34, this_place_34, e34, h⟩ := wp_b2 h
        refine b_cVi C (pc := 34) dX9_readNumber_34 (c_X9_digit (xl g) (xG g) q (up F 27 this_place_10) c_this_text r34 this_place_34 e34) rfl gX9_readNumber_X9_digit ⟨rfl, rfl⟩ 0 hd_X9_digit ⟨Nat.le_of_ble_eq_true rfl, Nat.le_of_ble_eq_true rfl⟩ rfl 0 rfl rfl rfl [0, 1] rfl (srt_nd 0 rfl) (ws' := w_X9_readNumber (xG g) q (up F 27 this_place_34) c_this_text c_this_toldNumber) (Put.m rfl rfl rfl) rfl (rest := [.int (jz (10 * r10)), .int (jz (F 28)), .ref (q 32)]) rfl (Nat.le_of_ble_eq_true rfl) ⟨Nat.zero_le _, Nat.zero_le _⟩ ?_
        refine r_iadd C (pc := 37) dX9_readNumber_37 ?_
        refine r_goto C (pc := 38) 42 dX9_readNumber_38 rfl ?_
        refine r_sub [] rfl ?_
        exact hk42 ((10 * r10) + r34) this_place_34 h
  · refine r_iconst C (pc := 7) dX9_readNumber_7 ?_
    exact r_iret C (pc := 8) dX9_readNumber_8 (hK 0 (F 27) c_this_toldNumber (wp_s h) (nB rfl).1)
theorem c_X9_readNumber (l : Launch) (G : gG) (q : Nat → Nat) (F : Nat → Int) (c_this_text : Nat → Int) (c_this_toldNumber : Nat → Int) (r : Int) (o0 : Int) (o1 : Nat → Int) (hf : f_X9_readNumber (F 15) (F 27) (F 28) c_this_text c_this_toldNumber = some (r, o0, o1)) : CTi l yX9_readNumber wsX9_readNumber rm_X9_readNumber G (w_X9_readNumber G q F c_this_text c_this_toldNumber) [.ref (q 35)] (jz r) (w_X9_readNumber G q (up F 27 o0) c_this_text o1) := CTi_of (by decide) rfl rfl (Nat.le_of_ble_eq_true rfl) (fun g C hG hl hF => by
    subst hG
    subst hl
    exact k_X9_readNumber C q F c_this_text c_this_toldNumber (fun x => x = (r, o0, o1)) (fun r' o0' o1' e => by cases e; exact hF) ⟨_, hf, rfl⟩)

-- TightHullsModel.readClause()Z
def f_X9_readClause (m_texts : Int) (m_place : Int) (m_clauses : Int) (c_this_text : Nat → Int) (c_this_clause : Nat → Int) (c_this_told : Nat → Int) (c_this_toldBy : Nat → Int) (c_this_toldNumber : Nat → Int) : Option (Int × Int × (Nat → Int) × (Nat → Int) × (Nat → Int) × (Nat → Int)) := jn (fun (s0_24 : Int) => jn (lv ((m_place + 1)) (fun x64 => grd (iin m_clauses 12) (if eqI s0_24 104 = true then (some (1, x64, (up c_this_clause (ix m_clauses) s0_24), c_this_told, c_this_toldBy, c_this_toldNumber)) else (if eqI s0_24 109 = true then (bd3 (f_X9_readNumber m_texts x64 m_clauses c_this_text c_this_toldNumber) (fun r92 this_place_92 this_toldNumber_92 => grd (isB r92) (some (r92, this_place_92, (up c_this_clause (ix m_clauses) s0_24), c_this_told, c_this_toldBy, this_toldNumber_92)))) else (bd1 (f_X9_isDigit m_texts x64 c_this_text) (fun r97 => if eqI r97 0 = true then (some (0, x64, (up c_this_clause (ix m_clauses) s0_24), c_this_told, c_this_toldBy, c_this_toldNumber)) else (bd2 (f_X9_digit x64 c_this_text) (fun r114 this_place_114 => grd (iin m_clauses 12) (if eqI s0_24 110 = true then (some (1, this_place_114, (up c_this_clause (ix m_clauses) s0_24), (up c_this_told (ix m_clauses) r114), c_this_toldBy, c_this_toldNumber)) else (if eqI s0_24 100 = true then (bd1 (f_X9_isDigit m_texts this_place_114 c_this_text) (fun r133 => if eqI r133 0 = true then (some (0, this_place_114, (up c_this_clause (ix m_clauses) s0_24), (up c_this_told (ix m_clauses) r114), c_this_toldBy, c_this_toldNumber)) else (bd2 (f_X9_digit this_place_114 c_this_text) (fun r150 this_place_150 => grd (iin m_clauses 12) (bd3 (f_X9_readNumber m_texts this_place_150 m_clauses c_this_text c_this_toldNumber) (fun r155 this_place_155 this_toldNumber_155 => grd (isB r155) (some (r155, this_place_155, (up c_this_clause (ix m_clauses) s0_24), (up c_this_told (ix m_clauses) r114), (up c_this_toldBy (ix m_clauses) r150), this_toldNumber_155)))))))) else (grd (iin m_clauses 12) (lv ((shlI 1 ((up c_this_told (ix m_clauses) r114) (ix m_clauses)))) (fun x178 => grd (iin m_clauses 12) (lq3 (fun (n181 : Int → Int → (Nat → Int) → Option (Int × Int × (Nat → Int) × (Nat → Int) × (Nat → Int) × (Nat → Int))) (v2_181 : Int) (this_place_181 : Int) (this_told_181 : Nat → Int) => jn (bd2 (f_X9_takes 32 m_texts this_place_181 c_this_text) (fun r220 this_place_220 => jn (fun (s0_238 : Int) (this_place_238 : Int) (this_toldNumber_238 : Nat → Int) => grd (isB s0_238) (some (s0_238, this_place_238, (up c_this_clause (ix m_clauses) s0_24), this_told_181, c_this_toldBy, this_toldNumber_238))) (fun (k238 : Int → Int → (Nat → Int) → Option (Int × Int × (Nat → Int) × (Nat → Int) × (Nat → Int) × (Nat → Int))) => jn (fun (this_place_237 : Int) (this_toldNumber_237 : Nat → Int) => k238 0 this_place_237 this_toldNumber_237) (fun (k237 : Int → (Nat → Int) → Option (Int × Int × (Nat → Int) × (Nat → Int) × (Nat → Int) × (Nat → Int))) => if eqI r220 0 = true then (k237 this_place_220 c_this_toldNumber) else (bd3 (f_X9_readNumber m_texts this_place_220 m_clauses c_this_text c_this_toldNumber) (fun r227 this_place_227 this_toldNumber_227 => if eqI r227 0 = true then (k237 this_place_227 this_toldNumber_227) else (k238 1 this_place_227 this_toldNumber_227))))))) (fun (k217 : Option (Int × Int × (Nat → Int) × (Nat → Int) × (Nat → Int) × (Nat → Int))) => if ltI v2_181 3 = true then (bd1 (f_X9_isDigit m_texts this_place_181 c_this_text) (fun r187 => if eqI r187 0 = true then k217 else (grd (iin m_clauses 12) (bd2 (f_X9_digit this_place_181 c_this_text) (fun r205 this_place_205 => lv ((orI (this_told_181 (ix m_clauses)) (shlI 1 r205))) (fun x210 => grd (iin m_clauses 12) (n181 (v2_181 + 1) this_place_205 (up this_told_181 (ix m_clauses) x210)))))))) else k217)) 300 0 this_place_114 (up (up c_this_told (ix m_clauses) r114) (ix m_clauses) x178))))))))))))))) (fun (k57 : Option (Int × Int × (Nat → Int) × (Nat → Int) × (Nat → Int) × (Nat → Int))) => if eqI s0_24 110 = true then k57 else (if eqI s0_24 100 = true then k57 else (if eqI s0_24 115 = true then k57 else (if eqI s0_24 109 = true then k57 else (if eqI s0_24 104 = true then k57 else (some (0, m_place, c_this_clause, c_this_told, c_this_toldBy, c_this_toldNumber)))))))) (fun (k24 : Int → Option (Int × Int × (Nat → Int) × (Nat → Int) × (Nat → Int) × (Nat → Int))) => if ltI m_place m_texts = true then (grd (iin m_place 100) (k24 (c_this_text (ix m_place)))) else (k24 0))
abbrev rm_X9_readClause : Room := { frames := 3, cells := 0, slots := 0, locals := 63 }
abbrev w_X9_readClause (G : gG) (q : Nat → Nat) (F : Nat → Int) (c_this_text : Nat → Int) (c_this_clause : Nat → Int) (c_this_told : Nat → Int) (c_this_toldBy : Nat → Int) (c_this_toldNumber : Nat → Int) : va_W := [((q 35), oX9 F q), ((q 14), aI G 100 c_this_text), ((q 29), aI G 12 c_this_clause), ((q 30), aI G 12 c_this_told), ((q 31), aI G 12 c_this_toldBy), ((q 32), aI G 12 c_this_toldNumber)]
theorem hd_X9_readClause : yX9_readClause.cls = RX9 ∧ yX9_readClause.cls ≠ "java/lang/invoke/MethodHandle" ∧ yX9_readClause.cls ≠ "java/lang/invoke/VarHandle" ∧ (parseMethodDescriptor yX9_readClause.desc).map (fun d => d.parameters.length) = some 0 := by decide +kernel
theorem in_X9_readClause_X9 : ∀ w ∈ u_ws RX9 TX9 35, w ∈ wsX9_readClause := fun w h => List.mem_cons_of_mem _ (List.mem_append_right _ (h))
theorem gf_X9_readClause_264 : GF wsX9_readClause RX9 264 8 27 := ⟨RX9, TX9, 35, rfl, in_X9_readClause_X9, by decide, List.mem_of_getElem? (i := 1) rfl⟩
theorem gf_X9_readClause_261 : GF wsX9_readClause RX9 261 8 15 := ⟨RX9, TX9, 35, rfl, in_X9_readClause_X9, by decide, List.mem_of_getElem? (i := 2) rfl⟩
theorem pf_X9_readClause_264 : PF wsX9_readClause RX9 264 8 27 .int false := ⟨RX9, TX9, 35, tyX9, rfl, in_X9_readClause_X9, tyX9_ok, nmX9, by decide, List.mem_of_getElem? (i := 1) rfl, rfl, rfl, rfl⟩
theorem gf_X9_readClause_80 : GF wsX9_readClause RX9 80 8 29 := ⟨RX9, TX9, 35, rfl, in_X9_readClause_X9, by decide, List.mem_of_getElem? (i := 4) rfl⟩
theorem gf_X9_readClause_273 : GF wsX9_readClause RX9 273 8 28 := ⟨RX9, TX9, 35, rfl, in_X9_readClause_X9, by decide, List.mem_of_getElem? (i := 5) rfl⟩
theorem gf_X9_readClause_83 : GF wsX9_readClause RX9 83 8 30 := ⟨RX9, TX9, 35, rfl, in_X9_readClause_X9, by decide, List.mem_of_getElem? (i := 6) rfl⟩
theorem gf_X9_readClause_86 : GF wsX9_readClause RX9 86 8 31 := ⟨RX9, TX9, 35, rfl, in_X9_readClause_X9, by decide, List.mem_of_getElem? (i := 7) rfl⟩
theorem gf_X9_readClause_46 : GF wsX9_readClause RX9 46 8 14 := ⟨RX9, TX9, 35, rfl, in_X9_readClause_X9, by decide, List.mem_of_getElem? (i := 3) rfl⟩
set_option maxRecDepth 100000 in
set_option maxHeartbeats 4000000 in
theorem k_X9_readClause {g : XC} (C : XOk g cX9_readClause RX9 wsX9_readClause rm_X9_readClause 3) (q : Nat → Nat) (F : Nat → Int) (c_this_text : Nat → Int) (c_this_clause : Nat → Int) (c_this_told : Nat → Int) (c_this_toldBy : Nat → Int) (c_this_toldNumber : Nat → Int)  (K : (Int × Int × (Nat → Int) × (Nat → Int) × (Nat → Int) × (Nat → Int)) → Prop) (hK : ∀ (r : Int) (o0 : Int) (o1 : Nat → Int) (o2 : Nat → Int) (o3 : Nat → Int) (o4 : Nat → Int), K (r, o0, o1, o2, o3, o4) → (narrow .boolean (.int (jz r)) = .int (jz r) → FinI g 0 0 (w_X9_readClause (xG g) q (up F 27 o0) c_this_text o1 o2 o3 o4) (jz r))) (h : wp (f_X9_readClause (F 15) (F 27) (F 28) c_this_text c_this_clause c_this_told c_this_toldBy c_this_toldNumber) K) : WW g 0 0 (w_X9_readClause (xG g) q F c_this_text c_this_clause c_this_told c_this_toldBy c_this_toldNumber) 0 [(0, .ref (q 35))] [] := by
  unfold f_X9_readClause at h
  refine r_aload_n C (pc := 0) dX9_readClause_0 rfl 0 rfl ?_
  refine r_get C (pc := 1) dX9_readClause_1 gf_X9_readClause_264 0 rfl rfl ?_
  refine r_aload_n C (pc := 4) dX9_readClause_4 rfl 0 rfl ?_
  refine r_get C (pc := 5) dX9_readClause_5 gf_X9_readClause_261 0 rfl rfl ?_
  refine jn_e (fun (k24 : Int → Option (Int × Int × (Nat → Int) × (Nat → Int) × (Nat → Int) × (Nat → Int))) => ∀ (s0_24 : Int), wp (k24 s0_24) K → WW g 0 0 (w_X9_readClause (xG g) q F c_this_text c_this_clause c_this_told c_this_toldBy c_this_toldNumber) 24 [(0, .ref (q 35))] [.int (jz s0_24)]) h (fun s0_24 h => ?_) (fun k24 hk24 h => ?_)
  · refine r_istore_n C (pc := 24) dX9_readClause_24 rfl (by decide) (L' := [(0, .ref (q 35)), (1, .int (jz s0_24))]) rfl ?_
    refine r_iload_n C (pc := 25) dX9_readClause_25 rfl 1 rfl ?_
    refine r_bipush C (pc := 26) dX9_readClause_26 rfl ?_
    refine jn_e (fun (k57 : Option (Int × Int × (Nat → Int) × (Nat → Int) × (Nat → Int) × (Nat → Int))) => wp (k57) K → WW g 0 0 (w_X9_readClause (xG g) q F c_this_text c_this_clause c_this_told c_this_toldBy c_this_toldNumber) 57 [(0, .ref (q 35)), (1, .int (jz s0_24))] []) h (fun h => ?_) (fun k57 hk57 h => ?_)
    · refine r_aload_n C (pc := 57) dX9_readClause_57 rfl 0 rfl ?_
      refine r_dup C (pc := 58) dX9_readClause_58 rfl ?_
      refine r_get C (pc := 59) dX9_readClause_59 gf_X9_readClause_264 0 rfl rfl ?_
      refine r_iconst C (pc := 62) dX9_readClause_62 ?_
      refine r_iadd C (pc := 63) dX9_readClause_63 ?_
      refine r_let h (fun x64 h => ?_)
      refine r_puti C (pc := 64) dX9_readClause_64 pf_X9_readClause_264 0 rfl (Nat.le_of_ble_eq_true rfl) (ws' := w_X9_readClause (xG g) q (up F 27 x64) c_this_text c_this_clause c_this_told c_this_toldBy c_this_toldNumber) rfl ?_
      refine r_aload_n C (pc := 67) dX9_readClause_67 rfl 0 rfl ?_
      refine r_get C (pc := 68) dX9_readClause_68 gf_X9_readClause_80 0 rfl rfl ?_
      refine r_aload_n C (pc := 71) dX9_readClause_71 rfl 0 rfl ?_
      refine r_get C (pc := 72) dX9_readClause_72 gf_X9_readClause_273 0 rfl rfl ?_
      refine r_iload_n C (pc := 75) dX9_readClause_75 rfl 1 rfl ?_
      refine r_iast C (pc := 76) dX9_readClause_76 h 2 rfl (ws' := w_X9_readClause (xG g) q (up F 27 x64) c_this_text (up c_this_clause (ix (F 28)) s0_24) c_this_told c_this_toldBy c_this_toldNumber) rfl (fun h => ?_)
      refine r_iload_n C (pc := 77) dX9_readClause_77 rfl 1 rfl ?_
      refine r_bipush C (pc := 78) dX9_readClause_78 rfl ?_
      refine r_icmp_ne C (pc := 80) 85 dX9_readClause_80 rfl h (fun c80 h => ?_) (fun c80 h => ?_)
      · refine r_iload_n C (pc := 85) dX9_readClause_85 rfl 1 rfl ?_
        refine r_bipush C (pc := 86) dX9_readClause_86 rfl ?_
        refine r_icmp_ne C (pc := 88) 96 dX9_readClause_88 rfl h (fun c88 h => ?_) (fun c88 h => ?_)
        · refine r_aload_n C (pc := 96) dX9_readClause_96 rfl 0 rfl ?_
          obtain ⟨r97, e97, h⟩ := wp_b1 h
          refine b_cVi C (pc := 97) dX9_readClause_97 (c_X9_isDigit (xl g) (xG g) q (up F 27 x64) c_this_text r97 e97) rfl gX9_readClause_X9_isDigit ⟨rfl, rfl⟩ 0 hd_X9_isDigit ⟨Nat.le_of_ble_eq_true rfl, Nat.le_of_ble_eq_true rfl⟩ rfl 0 rfl rfl rfl [0, 1] rfl (srt_nd 0 rfl) (ws' := w_X9_readClause (xG g) q (up F 27 x64) c_this_text (up c_this_clause (ix (F 28)) s0_24) c_this_told c_this_toldBy c_this_toldNumber) (Put.m rfl rfl rfl) rfl (rest := []) rfl (Nat.le_of_ble_eq_true rfl) ⟨Nat.zero_le _, Nat.zero_le _⟩ ?_
          refine r_if_ne C (pc := 100) 105 dX9_readClause_100 rfl h (fun c100 h => ?_) (fun c100 h => ?_)
          · refine r_aload_n C (pc := 105) dX9_readClause_105 rfl 0 rfl ?_
            refine r_get C (pc := 106) dX9_readClause_106 gf_X9_readClause_83 0 rfl rfl ?_
            refine r_aload_n C (pc := 109) dX9_readClause_109 rfl 0 rfl ?_
            refine r_get C (pc := 110) dX9_readClause_110 gf_X9_readClause_273 0 rfl rfl ?_
            refine r_aload_n C (pc := 113) dX9_readClause_113 rfl 0 rfl ?_
            obtain ⟨r114, this_place_114, e114, h⟩ := wp_b2 h
            refine b_cVi C (pc := 114) dX9_readClause_114 (c_X9_digit (xl g) (xG g) q (up F 27 x64) c_this_text r114 this_place_114 e114) rfl gX9_readClause_X9_digit ⟨rfl, rfl⟩ 0 hd_X9_digit ⟨Nat.le_of_ble_eq_true rfl, Nat.le_of_ble_eq_true rfl⟩ rfl 0 rfl rfl rfl [0, 1] rfl (srt_nd 0 rfl) (ws' := w_X9_readClause (xG g) q (up F 27 this_place_114) c_this_text (up c_this_clause (ix (F 28)) s0_24) c_this_told c_this_toldBy c_this_toldNumber) (Put.m rfl rfl rfl) rfl (rest := [.int (jz (F 28)), .ref (q 30)]) rfl (Nat.le_of_ble_eq_true rfl) ⟨Nat.zero_le _, Nat.zero_le _⟩ ?_
            refine r_iast C (pc := 117) dX9_readClause_117 h 3 rfl (ws' := w_X9_readClause (xG g) q (up F 27 this_place_114) c_this_text (up c_this_clause (ix (F 28)) s0_24) (up c_this_told (ix (F 28)) r114) c_this_toldBy c_this_toldNumber) rfl (fun h => ?_)
            refine r_iload_n C (pc := 118) dX9_readClause_118 rfl 1 rfl ?_
            refine r_bipush C (pc := 119) dX9_readClause_119 rfl ?_
            refine r_icmp_ne C (pc := 121) 126 dX9_readClause_121 rfl h (fun c121 h => ?_) (fun c121 h => ?_)
            · refine r_iload_n C (pc := 126) dX9_readClause_126 rfl 1 rfl ?_
              refine r_bipush C (pc := 127) dX9_readClause_127 rfl ?_
              refine r_icmp_ne C (pc := 129) 159 dX9_readClause_129 rfl h (fun c129 h => ?_) (fun c129 h => ?_)
              · refine r_aload_n C (pc := 159) dX9_readClause_159 rfl 0 rfl ?_
                refine r_get C (pc := 160) dX9_readClause_160 gf_X9_readClause_83 0 rfl rfl ?_
                refine r_aload_n C (pc := 163) dX9_readClause_163 rfl 0 rfl ?_
                refine r_get C (pc := 164) dX9_readClause_164 gf_X9_readClause_273 0 rfl rfl ?_
                refine r_iconst C (pc := 167) dX9_readClause_167 ?_
                refine r_aload_n C (pc := 168) dX9_readClause_168 rfl 0 rfl ?_
                refine r_get C (pc := 169) dX9_readClause_169 gf_X9_readClause_83 0 rfl rfl ?_
                refine r_aload_n C (pc := 172) dX9_readClause_172 rfl 0 rfl ?_
                refine r_get C (pc := 173) dX9_readClause_173 gf_X9_readClause_273 0 rfl rfl ?_
                refine r_iald C (pc := 176) dX9_readClause_176 h 3 rfl (fun h => ?_)
                refine r_ishl C (pc := 177) dX9_readClause_177 ?_
                refine r_let h (fun x178 h => ?_)
                refine r_iast C (pc := 178) dX9_readClause_178 h 3 rfl (ws' := w_X9_readClause (xG g) q (up F 27 this_place_114) c_this_text (up c_this_clause (ix (F 28)) s0_24) (up (up c_this_told (ix (F 28)) r114) (ix (F 28)) x178) c_this_toldBy c_this_toldNumber) rfl (fun h => ?_)
                refine r_iconst C (pc := 179) dX9_readClause_179 ?_
                refine r_istore_n C (pc := 180) dX9_readClause_180 rfl (by decide) (L' := [(0, .ref (q 35)), (1, .int (jz s0_24)), (2, .int (jz 0))]) rfl ?_
                refine r_sub [0, 2] rfl ?_
                refine lq3_e (fun (v2_181 : Int) (this_place_181 : Int) (this_told_181 : Nat → Int) => WW g 0 0 (w_X9_readClause (xG g) q (up F 27 this_place_181) c_this_text (up c_this_clause (ix (F 28)) s0_24) this_told_181 c_this_toldBy c_this_toldNumber) 181 [(0, .ref (q 35)), (2, .int (jz v2_181))] []) h (fun n181 hn181 v2_181 this_place_181 this_told_181 h => ?_)
                refine r_iload_n C (pc := 181) dX9_readClause_181 rfl 1 rfl ?_
                refine r_iconst C (pc := 182) dX9_readClause_182 ?_
                refine jn_e (fun (k217 : Option (Int × Int × (Nat → Int) × (Nat → Int) × (Nat → Int) × (Nat → Int))) => wp (k217) K → WW g 0 0 (w_X9_readClause (xG g) q (up F 27 this_place_181) c_this_text (up c_this_clause (ix (F 28)) s0_24) this_told_181 c_this_toldBy c_this_toldNumber) 217 [(0, .ref (q 35))] []) h (fun h => ?_) (fun k217 hk217 h => ?_)
                · refine r_aload_n C (pc := 217) dX9_readClause_217 rfl 0 rfl ?_
                  refine r_bipush C (pc := 218) dX9_readClause_218 rfl ?_
                  obtain ⟨r220, this_place_220, e220, h⟩ := wp_b2 h
                  refine b_cVi C (pc := 220) dX9_readClause_220 (c_X9_takes (xl g) (xG g) q (up F 27 this_place_181) c_this_text 32 r220 this_place_220 e220) rfl gX9_readClause_X9_takes ⟨rfl, rfl⟩ 1 hd_X9_takes ⟨Nat.le_of_ble_eq_true rfl, Nat.le_of_ble_eq_true rfl⟩ rfl 0 rfl rfl rfl [0, 1] rfl (srt_nd 0 rfl) (ws' := w_X9_readClause (xG g) q (up F 27 this_place_220) c_this_text (up c_this_clause (ix (F 28)) s0_24) this_told_181 c_this_toldBy c_this_toldNumber) (Put.m rfl rfl rfl) rfl (rest := []) rfl (Nat.le_of_ble_eq_true rfl) ⟨Nat.zero_le _, Nat.zero_le _⟩ ?_
                  refine jn_e (fun (k238 : Int → Int → (Nat → Int) → Option (Int × Int × (Nat → Int) × (Nat → Int) × (Nat → Int) × (Nat → Int))) => ∀ (s0_238 : Int) (this_place_238 : Int) (this_toldNumber_238 : Nat → Int), wp (k238 s0_238 this_place_238 this_toldNumber_238) K → WW g 0 0 (w_X9_readClause (xG g) q (up F 27 this_place_238) c_this_text (up c_this_clause (ix (F 28)) s0_24) this_told_181 c_this_toldBy this_toldNumber_238) 238 [] [.int (jz s0_238)]) h (fun s0_238 this_place_238 this_toldNumber_238 h => ?_) (fun k238 hk238 h => ?_)
                  · exact r_iret C (pc := 238) dX9_readClause_238 (hK s0_238 this_place_238 (up c_this_clause (ix (F 28)) s0_24) this_told_181 c_this_toldBy this_toldNumber_238 (wp_s (wp_g h).2) (nB (wp_g h).1).1)
                  · refine jn_e (fun (k237 : Int → (Nat → Int) → Option (Int × Int × (Nat → Int) × (Nat → Int) × (Nat → Int) × (Nat → Int))) => ∀ (this_place_237 : Int) (this_toldNumber_237 : Nat → Int), wp (k237 this_place_237 this_toldNumber_237) K → WW g 0 0 (w_X9_readClause (xG g) q (up F 27 this_place_237) c_this_text (up c_this_clause (ix (F 28)) s0_24) this_told_181 c_this_toldBy this_toldNumber_237) 237 [] []) h (fun this_place_237 this_toldNumber_237 h => ?_) (fun k237 hk237 h => ?_)
                    · refine r_iconst C (pc := 237) dX9_readClause_237 ?_
                      exact hk238 0 this_place_237 this_toldNumber_237 h
                    · refine r_if_eq C (pc := 223) 237 dX9_readClause_223 rfl h (fun c223 h => ?_) (fun c223 h => ?_)
                      · refine r_sub [] rfl ?_
                        exact hk237 this_place_220 c_this_toldNumber h
                      · refine r_aload_n C (pc := 226) dX9_readClause_226 rfl 0 rfl ?_
                        obtain ⟨r227, this_place_227, this_toldNumber_227, e227, h⟩ := wp_b3 h
                        refine b_cVi C (pc := 227) dX9_readClause_227 (c_X9_readNumber (xl g) (xG g) q (up F 27 this_place_220) c_this_text c_this_toldNumber r227 this_place_227 this_toldNumber_227 e227) rfl gX9_readClause_X9_readNumber ⟨rfl, rfl⟩ 0 hd_X9_readNumber ⟨Nat.le_of_ble_eq_true rfl, Nat.le_of_ble_eq_true rfl⟩ rfl 0 rfl rfl rfl [0, 1, 5] rfl (srt_nd 0 rfl) (ws' := w_X9_readClause (xG g) q (up F 27 this_place_227) c_this_text (up c_this_clause (ix (F 28)) s0_24) this_told_181 c_this_toldBy this_toldNumber_227) (Put.m rfl rfl rfl) rfl (rest := []) rfl (Nat.le_of_ble_eq_true rfl) ⟨Nat.zero_le _, Nat.zero_le _⟩ ?_
                        refine r_if_eq C (pc := 230) 237 dX9_readClause_230 rfl h (fun c230 h => ?_) (fun c230 h => ?_)
                        · refine r_sub [] rfl ?_
                          exact hk237 this_place_227 this_toldNumber_227 h
                        · refine r_iconst C (pc := 233) dX9_readClause_233 ?_
                          refine r_goto C (pc := 234) 238 dX9_readClause_234 rfl ?_
                          refine r_sub [] rfl ?_
                          exact hk238 1 this_place_227 this_toldNumber_227 h
                · refine r_icmp_ge C (pc := 183) 217 dX9_readClause_183 rfl h (fun c183 h => ?_) (fun c183 h => ?_)
                  · refine r_sub [0] rfl ?_
                    exact hk217 h
                  · refine r_aload_n C (pc := 186) dX9_readClause_186 rfl 0 rfl ?_
                    obtain ⟨r187, e187, h⟩ := wp_b1 h
                    refine b_cVi C (pc := 187) dX9_readClause_187 (c_X9_isDigit (xl g) (xG g) q (up F 27 this_place_181) c_this_text r187 e187) rfl gX9_readClause_X9_isDigit ⟨rfl, rfl⟩ 0 hd_X9_isDigit ⟨Nat.le_of_ble_eq_true rfl, Nat.le_of_ble_eq_true rfl⟩ rfl 0 rfl rfl rfl [0, 1] rfl (srt_nd 0 rfl) (ws' := w_X9_readClause (xG g) q (up F 27 this_place_181) c_this_text (up c_this_clause (ix (F 28)) s0_24) this_told_181 c_this_toldBy c_this_toldNumber) (Put.m rfl rfl rfl) rfl (rest := []) rfl (Nat.le_of_ble_eq_true rfl) ⟨Nat.zero_le _, Nat.zero_le _⟩ ?_
                    refine r_if_eq C (pc := 190) 217 dX9_readClause_190 rfl h (fun c190 h => ?_) (fun c190 h => ?_)
                    · refine r_sub [0] rfl ?_
                      exact hk217 h
                    · refine r_aload_n C (pc := 193) dX9_readClause_193 rfl 0 rfl ?_
                      refine r_get C (pc := 194) dX9_readClause_194 gf_X9_readClause_83 0 rfl rfl ?_
                      refine r_aload_n C (pc := 197) dX9_readClause_197 rfl 0 rfl ?_
                      refine r_get C (pc := 198) dX9_readClause_198 gf_X9_readClause_273 0 rfl rfl ?_
                      refine r_dup2 C (pc := 201) dX9_readClause_201 rfl rfl ?_
                      refine r_iald C (pc := 202) dX9_readClause_202 h 3 rfl (fun h => ?_)
                      refine r_iconst C (pc := 203) dX9_readClause_203 ?_
                      refine r_aload_n C (pc := 204) dX9_readClause_204 rfl 0 rfl ?_
                      obtain ⟨r205, this_place_205, e205, h⟩ := wp_b2 h
                      refine b_cVi C (pc := 205) dX9_readClause_205 (c_X9_digit (xl g) (xG g) q (up F 27 this_place_181) c_this_text r205 this_place_205 e205) rfl gX9_readClause_X9_digit ⟨rfl, rfl⟩ 0 hd_X9_digit ⟨Nat.le_of_ble_eq_true rfl, Nat.le_of_ble_eq_true rfl⟩ rfl 0 rfl rfl rfl [0, 1] rfl (srt_nd 0 rfl) (ws' := w_X9_readClause (xG g) q (up F 27 this_place_205) c_this_text (up c_this_clause (ix (F 28)) s0_24) this_told_181 c_this_toldBy c_this_toldNumber) (Put.m rfl rfl rfl) rfl (rest := [.int (jz 1), .int (jz (this_told_181 (ix (F 28)))), .int (jz (F 28)), .ref (q 30)]) rfl (Nat.le_of_ble_eq_true rfl) ⟨Nat.zero_le _, Nat.zero_le _⟩ ?_
                      refine r_ishl C (pc := 208) dX9_readClause_208 ?_
                      refine r_ior C (pc := 209) dX9_readClause_209 ?_
                      refine r_let h (fun x210 h => ?_)
                      refine r_iast C (pc := 210) dX9_readClause_210 h 3 rfl (ws' := w_X9_readClause (xG g) q (up F 27 this_place_205) c_this_text (up c_this_clause (ix (F 28)) s0_24) (up this_told_181 (ix (F 28)) x210) c_this_toldBy c_this_toldNumber) rfl (fun h => ?_)
                      refine r_iinc C (pc := 211) dX9_readClause_211 1 rfl (by decide) (L' := [(0, .ref (q 35)), (2, .int (jz (v2_181 + 1)))]) rfl ?_
                      refine r_goto C (pc := 214) 181 dX9_readClause_214 rfl ?_
                      exact hn181 (v2_181 + 1) this_place_205 (up this_told_181 (ix (F 28)) x210) h
              · refine r_aload_n C (pc := 132) dX9_readClause_132 rfl 0 rfl ?_
                obtain ⟨r133, e133, h⟩ := wp_b1 h
                refine b_cVi C (pc := 133) dX9_readClause_133 (c_X9_isDigit (xl g) (xG g) q (up F 27 this_place_114) c_this_text r133 e133) rfl gX9_readClause_X9_isDigit ⟨rfl, rfl⟩ 0 hd_X9_isDigit ⟨Nat.le_of_ble_eq_true rfl, Nat.le_of_ble_eq_true rfl⟩ rfl 0 rfl rfl rfl [0, 1] rfl (srt_nd 0 rfl) (ws' := w_X9_readClause (xG g) q (up F 27 this_place_114) c_this_text (up c_this_clause (ix (F 28)) s0_24) (up c_this_told (ix (F 28)) r114) c_this_toldBy c_this_toldNumber) (Put.m rfl rfl rfl) rfl (rest := []) rfl (Nat.le_of_ble_eq_true rfl) ⟨Nat.zero_le _, Nat.zero_le _⟩ ?_
                refine r_if_ne C (pc := 136) 141 dX9_readClause_136 rfl h (fun c136 h => ?_) (fun c136 h => ?_)
                · refine r_aload_n C (pc := 141) dX9_readClause_141 rfl 0 rfl ?_
                  refine r_get C (pc := 142) dX9_readClause_142 gf_X9_readClause_86 0 rfl rfl ?_
                  refine r_aload_n C (pc := 145) dX9_readClause_145 rfl 0 rfl ?_
                  refine r_get C (pc := 146) dX9_readClause_146 gf_X9_readClause_273 0 rfl rfl ?_
                  refine r_aload_n C (pc := 149) dX9_readClause_149 rfl 0 rfl ?_
                  obtain ⟨r150, this_place_150, e150, h⟩ := wp_b2 h
                  refine b_cVi C (pc := 150) dX9_readClause_150 (c_X9_digit (xl g) (xG g) q (up F 27 this_place_114) c_this_text r150 this_place_150 e150) rfl gX9_readClause_X9_digit ⟨rfl, rfl⟩ 0 hd_X9_digit ⟨Nat.le_of_ble_eq_true rfl, Nat.le_of_ble_eq_true rfl⟩ rfl 0 rfl rfl rfl [0, 1] rfl (srt_nd 0 rfl) (ws' := w_X9_readClause (xG g) q (up F 27 this_place_150) c_this_text (up c_this_clause (ix (F 28)) s0_24) (up c_this_told (ix (F 28)) r114) c_this_toldBy c_this_toldNumber) (Put.m rfl rfl rfl) rfl (rest := [.int (jz (F 28)), .ref (q 31)]) rfl (Nat.le_of_ble_eq_true rfl) ⟨Nat.zero_le _, Nat.zero_le _⟩ ?_
                  refine r_iast C (pc := 153) dX9_readClause_153 h 4 rfl (ws' := w_X9_readClause (xG g) q (up F 27 this_place_150) c_this_text (up c_this_clause (ix (F 28)) s0_24) (up c_this_told (ix (F 28)) r114) (up c_this_toldBy (ix (F 28)) r150) c_this_toldNumber) rfl (fun h => ?_)
                  refine r_aload_n C (pc := 154) dX9_readClause_154 rfl 0 rfl ?_
                  obtain ⟨r155, this_place_155, this_toldNumber_155, e155, h⟩ := wp_b3 h
                  refine b_cVi C (pc := 155) dX9_readClause_155 (c_X9_readNumber (xl g) (xG g) q (up F 27 this_place_150) c_this_text c_this_toldNumber r155 this_place_155 this_toldNumber_155 e155) rfl gX9_readClause_X9_readNumber ⟨rfl, rfl⟩ 0 hd_X9_readNumber ⟨Nat.le_of_ble_eq_true rfl, Nat.le_of_ble_eq_true rfl⟩ rfl 0 rfl rfl rfl [0, 1, 5] rfl (srt_nd 0 rfl) (ws' := w_X9_readClause (xG g) q (up F 27 this_place_155) c_this_text (up c_this_clause (ix (F 28)) s0_24) (up c_this_told (ix (F 28)) r114) (up c_this_toldBy (ix (F 28)) r150) this_toldNumber_155) (Put.m rfl rfl rfl) rfl (rest := []) rfl (Nat.le_of_ble_eq_true rfl) ⟨Nat.zero_le _, Nat.zero_le _⟩ ?_
                  exact r_iret C (pc := 158) dX9_readClause_158 (hK r155 this_place_155 (up c_this_clause (ix (F 28)) s0_24) (up c_this_told (ix (F 28)) r114) (up c_this_toldBy (ix (F 28)) r150) this_toldNumber_155 (wp_s (wp_g h).2) (nB (wp_g h).1).1)
                · refine r_iconst C (pc := 139) dX9_readClause_139 ?_
                  exact r_iret C (pc := 140) dX9_readClause_140 (hK 0 this_place_114 (up c_this_clause (ix (F 28)) s0_24) (up c_this_told (ix (F 28)) r114) c_this_toldBy c_this_toldNumber (wp_s h) (nB rfl).1)
            · refine r_iconst C (pc := 124) dX9_readClause_124 ?_
              exact r_iret C (pc := 125) dX9_readClause_125 (hK 1 this_place_114 (up c_this_clause (ix (F 28)) s0_24) (up c_this_told (ix (F 28)) r114) c_this_toldBy c_this_toldNumber (wp_s h) (nB rfl).1)
          · refine r_iconst C (pc := 103) dX9_readClause_103 ?_
            exact r_iret C (pc := 104) dX9_readClause_104 (hK 0 x64 (up c_this_clause (ix (F 28)) s0_24) c_this_told c_this_toldBy c_this_toldNumber (wp_s h) (nB rfl).1)
        · refine r_aload_n C (pc := 91) dX9_readClause_91 rfl 0 rfl ?_
          obtain ⟨r92, this_place_92, this_toldNumber_92, e92, h⟩ := wp_b3 h
          refine b_cVi C (pc := 92) dX9_readClause_92 (c_X9_readNumber (xl g) (xG g) q (up F 27 x64) c_this_text c_this_toldNumber r92 this_place_92 this_toldNumber_92 e92) rfl gX9_readClause_X9_readNumber ⟨rfl, rfl⟩ 0 hd_X9_readNumber ⟨Nat.le_of_ble_eq_true rfl, Nat.le_of_ble_eq_true rfl⟩ rfl 0 rfl rfl rfl [0, 1, 5] rfl (srt_nd 0 rfl) (ws' := w_X9_readClause (xG g) q (up F 27 this_place_92) c_this_text (up c_this_clause (ix (F 28)) s0_24) c_this_told c_this_toldBy this_toldNumber_92) (Put.m rfl rfl rfl) rfl (rest := []) rfl (Nat.le_of_ble_eq_true rfl) ⟨Nat.zero_le _, Nat.zero_le _⟩ ?_
          exact r_iret C (pc := 95) dX9_readClause_95 (hK r92 this_place_92 (up c_this_clause (ix (F 28)) s0_24) c_this_told c_this_toldBy this_toldNumber_92 (wp_s (wp_g h).2) (nB (wp_g h).1).1)
      · refine r_iconst C (pc := 83) dX9_readClause_83 ?_
        exact r_iret C (pc := 84) dX9_readClause_84 (hK 1 x64 (up c_this_clause (ix (F 28)) s0_24) c_this_told c_this_toldBy c_this_toldNumber (wp_s h) (nB rfl).1)
    · refine r_icmp_eq C (pc := 28) 57 dX9_readClause_28 rfl h (fun c28 h => ?_) (fun c28 h => ?_)
      · exact hk57 h
      · refine r_iload_n C (pc := 31) dX9_readClause_31 rfl 1 rfl ?_
        refine r_bipush C (pc := 32) dX9_readClause_32 rfl ?_
        refine r_icmp_eq C (pc := 34) 57 dX9_readClause_34 rfl h (fun c34 h => ?_) (fun c34 h => ?_)
        · exact hk57 h
        · refine r_iload_n C (pc := 37) dX9_readClause_37 rfl 1 rfl ?_
          refine r_bipush C (pc := 38) dX9_readClause_38 rfl ?_
          refine r_icmp_eq C (pc := 40) 57 dX9_readClause_40 rfl h (fun c40 h => ?_) (fun c40 h => ?_)
          · exact hk57 h
          · refine r_iload_n C (pc := 43) dX9_readClause_43 rfl 1 rfl ?_
            refine r_bipush C (pc := 44) dX9_readClause_44 rfl ?_
            refine r_icmp_eq C (pc := 46) 57 dX9_readClause_46 rfl h (fun c46 h => ?_) (fun c46 h => ?_)
            · exact hk57 h
            · refine r_iload_n C (pc := 49) dX9_readClause_49 rfl 1 rfl ?_
              refine r_bipush C (pc := 50) dX9_readClause_50 rfl ?_
              refine r_icmp_eq C (pc := 52) 57 dX9_readClause_52 rfl h (fun c52 h => ?_) (fun c52 h => ?_)
              · exact hk57 h
              · refine r_iconst C (pc := 55) dX9_readClause_55 ?_
                exact r_iret C (pc := 56) dX9_readClause_56 (hK 0 (F 27) c_this_clause c_this_told c_this_toldBy c_this_toldNumber (wp_s h) (nB rfl).1)
  · refine r_icmp_ge C (pc := 8) 23 dX9_readClause_8 rfl h (fun c8 h => ?_) (fun c8 h => ?_)
    · refine r_iconst C (pc := 23) dX9_readClause_23 ?_
      exact hk24 0 h
    · refine r_aload_n C (pc := 11) dX9_readClause_11 rfl 0 rfl ?_
      refine r_get C (pc := 12) dX9_readClause_12 gf_X9_readClause_46 0 rfl rfl ?_
      refine r_aload_n C (pc := 15) dX9_readClause_15 rfl 0 rfl ?_
      refine r_get C (pc := 16) dX9_readClause_16 gf_X9_readClause_264 0 rfl rfl ?_
      refine r_iald C (pc := 19) dX9_readClause_19 h 1 rfl (fun h => ?_)
      refine r_goto C (pc := 20) 24 dX9_readClause_20 rfl ?_
      exact hk24 (c_this_text (ix (F 27))) h
theorem c_X9_readClause (l : Launch) (G : gG) (q : Nat → Nat) (F : Nat → Int) (c_this_text : Nat → Int) (c_this_clause : Nat → Int) (c_this_told : Nat → Int) (c_this_toldBy : Nat → Int) (c_this_toldNumber : Nat → Int) (r : Int) (o0 : Int) (o1 : Nat → Int) (o2 : Nat → Int) (o3 : Nat → Int) (o4 : Nat → Int) (hf : f_X9_readClause (F 15) (F 27) (F 28) c_this_text c_this_clause c_this_told c_this_toldBy c_this_toldNumber = some (r, o0, o1, o2, o3, o4)) : CTi l yX9_readClause wsX9_readClause rm_X9_readClause G (w_X9_readClause G q F c_this_text c_this_clause c_this_told c_this_toldBy c_this_toldNumber) [.ref (q 35)] (jz r) (w_X9_readClause G q (up F 27 o0) c_this_text o1 o2 o3 o4) := CTi_of (by decide) rfl rfl (Nat.le_of_ble_eq_true rfl) (fun g C hG hl hF => by
    subst hG
    subst hl
    exact k_X9_readClause C q F c_this_text c_this_clause c_this_told c_this_toldBy c_this_toldNumber (fun x => x = (r, o0, o1, o2, o3, o4)) (fun r' o0' o1' o2' o3' o4' e => by cases e; exact hF) ⟨_, hf, rfl⟩)

-- TightHullsModel.readAll()Z
def f_X9_readAll (m_texts : Int) (m_place : Int) (m_clauses : Int) (c_this_text : Nat → Int) (c_this_clause : Nat → Int) (c_this_told : Nat → Int) (c_this_toldBy : Nat → Int) (c_this_toldNumber : Nat → Int) : Option (Int × Int × Int × (Nat → Int) × (Nat → Int) × (Nat → Int) × (Nat → Int)) := lq6 (fun (n10 : Int → Int → (Nat → Int) → (Nat → Int) → (Nat → Int) → (Nat → Int) → Option (Int × Int × Int × (Nat → Int) × (Nat → Int) × (Nat → Int) × (Nat → Int))) (this_place_10 : Int) (this_clauses_10 : Int) (this_clause_10 : Nat → Int) (this_told_10 : Nat → Int) (this_toldBy_10 : Nat → Int) (this_toldNumber_10 : Nat → Int) => bd6 (f_X9_readClause m_texts this_place_10 this_clauses_10 c_this_text this_clause_10 this_told_10 this_toldBy_10 this_toldNumber_10) (fun r11 this_place_11 this_clause_11 this_told_11 this_toldBy_11 this_toldNumber_11 => if eqI r11 0 = true then (some (0, this_place_11, this_clauses_10, this_clause_11, this_told_11, this_toldBy_11, this_toldNumber_11)) else (lv ((this_clauses_10 + 1)) (fun x26 => jn (fun (this_place_47 : Int) => jn (fun (s0_63 : Int) => grd (isB s0_63) (some (s0_63, this_place_47, x26, this_clause_11, this_told_11, this_toldBy_11, this_toldNumber_11))) (fun (k63 : Int → Option (Int × Int × Int × (Nat → Int) × (Nat → Int) × (Nat → Int) × (Nat → Int))) => if eqI this_place_47 m_texts = true then (k63 1) else (k63 0))) (fun (k47 : Int → Option (Int × Int × Int × (Nat → Int) × (Nat → Int) × (Nat → Int) × (Nat → Int))) => if ltI x26 12 = true then (bd2 (f_X9_takes 59 m_texts this_place_11 c_this_text) (fun r41 this_place_41 => if eqI r41 0 = true then (k47 this_place_41) else (n10 this_place_41 x26 this_clause_11 this_told_11 this_toldBy_11 this_toldNumber_11))) else (k47 this_place_11)))))) 300 0 0 c_this_clause c_this_told c_this_toldBy c_this_toldNumber
abbrev rm_X9_readAll : Room := { frames := 4, cells := 0, slots := 0, locals := 85 }
abbrev w_X9_readAll (G : gG) (q : Nat → Nat) (F : Nat → Int) (c_this_text : Nat → Int) (c_this_clause : Nat → Int) (c_this_told : Nat → Int) (c_this_toldBy : Nat → Int) (c_this_toldNumber : Nat → Int) : va_W := [((q 35), oX9 F q), ((q 14), aI G 100 c_this_text), ((q 29), aI G 12 c_this_clause), ((q 30), aI G 12 c_this_told), ((q 31), aI G 12 c_this_toldBy), ((q 32), aI G 12 c_this_toldNumber)]
theorem hd_X9_readAll : yX9_readAll.cls = RX9 ∧ yX9_readAll.cls ≠ "java/lang/invoke/MethodHandle" ∧ yX9_readAll.cls ≠ "java/lang/invoke/VarHandle" ∧ (parseMethodDescriptor yX9_readAll.desc).map (fun d => d.parameters.length) = some 0 := by decide +kernel
theorem in_X9_readAll_X9 : ∀ w ∈ u_ws RX9 TX9 35, w ∈ wsX9_readAll := fun w h => List.mem_cons_of_mem _ (List.mem_append_right _ (h))
theorem pf_X9_readAll_264 : PF wsX9_readAll RX9 264 8 27 .int false := ⟨RX9, TX9, 35, tyX9, rfl, in_X9_readAll_X9, tyX9_ok, nmX9, by decide, List.mem_of_getElem? (i := 1) rfl, rfl, rfl, rfl⟩
theorem pf_X9_readAll_273 : PF wsX9_readAll RX9 273 8 28 .int false := ⟨RX9, TX9, 35, tyX9, rfl, in_X9_readAll_X9, tyX9_ok, nmX9, by decide, List.mem_of_getElem? (i := 2) rfl, rfl, rfl, rfl⟩
theorem gf_X9_readAll_273 : GF wsX9_readAll RX9 273 8 28 := ⟨RX9, TX9, 35, rfl, in_X9_readAll_X9, by decide, List.mem_of_getElem? (i := 2) rfl⟩
theorem gf_X9_readAll_264 : GF wsX9_readAll RX9 264 8 27 := ⟨RX9, TX9, 35, rfl, in_X9_readAll_X9, by decide, List.mem_of_getElem? (i := 1) rfl⟩
theorem gf_X9_readAll_261 : GF wsX9_readAll RX9 261 8 15 := ⟨RX9, TX9, 35, rfl, in_X9_readAll_X9, by decide, List.mem_of_getElem? (i := 3) rfl⟩
set_option maxRecDepth 100000 in
set_option maxHeartbeats 4000000 in
theorem k_X9_readAll {g : XC} (C : XOk g cX9_readAll RX9 wsX9_readAll rm_X9_readAll 1) (q : Nat → Nat) (F : Nat → Int) (c_this_text : Nat → Int) (c_this_clause : Nat → Int) (c_this_told : Nat → Int) (c_this_toldBy : Nat → Int) (c_this_toldNumber : Nat → Int)  (K : (Int × Int × Int × (Nat → Int) × (Nat → Int) × (Nat → Int) × (Nat → Int)) → Prop) (hK : ∀ (r : Int) (o0 : Int) (o1 : Int) (o2 : Nat → Int) (o3 : Nat → Int) (o4 : Nat → Int) (o5 : Nat → Int), K (r, o0, o1, o2, o3, o4, o5) → (narrow .boolean (.int (jz r)) = .int (jz r) → FinI g 0 0 (w_X9_readAll (xG g) q (up (up F 27 o0) 28 o1) c_this_text o2 o3 o4 o5) (jz r))) (h : wp (f_X9_readAll (F 15) (F 27) (F 28) c_this_text c_this_clause c_this_told c_this_toldBy c_this_toldNumber) K) : WW g 0 0 (w_X9_readAll (xG g) q F c_this_text c_this_clause c_this_told c_this_toldBy c_this_toldNumber) 0 [(0, .ref (q 35))] [] := by
  unfold f_X9_readAll at h
  refine r_aload_n C (pc := 0) dX9_readAll_0 rfl 0 rfl ?_
  refine r_iconst C (pc := 1) dX9_readAll_1 ?_
  refine r_puti C (pc := 2) dX9_readAll_2 pf_X9_readAll_264 0 rfl (Nat.le_of_ble_eq_true rfl) (ws' := w_X9_readAll (xG g) q (up F 27 0) c_this_text c_this_clause c_this_told c_this_toldBy c_this_toldNumber) rfl ?_
  refine r_aload_n C (pc := 5) dX9_readAll_5 rfl 0 rfl ?_
  refine r_iconst C (pc := 6) dX9_readAll_6 ?_
  refine r_puti C (pc := 7) dX9_readAll_7 pf_X9_readAll_273 0 rfl (Nat.le_of_ble_eq_true rfl) (ws' := w_X9_readAll (xG g) q (up (up F 27 0) 28 0) c_this_text c_this_clause c_this_told c_this_toldBy c_this_toldNumber) rfl ?_
  refine lq6_e (fun (this_place_10 : Int) (this_clauses_10 : Int) (this_clause_10 : Nat → Int) (this_told_10 : Nat → Int) (this_toldBy_10 : Nat → Int) (this_toldNumber_10 : Nat → Int) => WW g 0 0 (w_X9_readAll (xG g) q (up (up F 27 this_place_10) 28 this_clauses_10) c_this_text this_clause_10 this_told_10 this_toldBy_10 this_toldNumber_10) 10 [(0, .ref (q 35))] []) h (fun n10 hn10 this_place_10 this_clauses_10 this_clause_10 this_told_10 this_toldBy_10 this_toldNumber_10 h => ?_)
  refine r_aload_n C (pc := 10) dX9_readAll_10 rfl 0 rfl ?_
  obtain ⟨r11, this_place_11, this_clause_11, this_told_11, this_toldBy_11, this_toldNumber_11, e11, h⟩ := wp_b6 h
  refine b_cVi C (pc := 11) dX9_readAll_11 (c_X9_readClause (xl g) (xG g) q (up (up F 27 this_place_10) 28 this_clauses_10) c_this_text this_clause_10 this_told_10 this_toldBy_10 this_toldNumber_10 r11 this_place_11 this_clause_11 this_told_11 this_toldBy_11 this_toldNumber_11 e11) rfl gX9_readAll_X9_readClause ⟨rfl, rfl⟩ 0 hd_X9_readClause ⟨Nat.le_of_ble_eq_true rfl, Nat.le_of_ble_eq_true rfl⟩ rfl 0 rfl rfl rfl [0, 1, 2, 3, 4, 5] rfl (srt_nd 0 rfl) (ws' := w_X9_readAll (xG g) q (up (up F 27 this_place_11) 28 this_clauses_10) c_this_text this_clause_11 this_told_11 this_toldBy_11 this_toldNumber_11) (Put.m rfl rfl rfl) rfl (rest := []) rfl (Nat.le_of_ble_eq_true rfl) ⟨Nat.zero_le _, Nat.zero_le _⟩ ?_
  refine r_if_ne C (pc := 14) 19 dX9_readAll_14 rfl h (fun c14 h => ?_) (fun c14 h => ?_)
  · refine r_aload_n C (pc := 19) dX9_readAll_19 rfl 0 rfl ?_
    refine r_dup C (pc := 20) dX9_readAll_20 rfl ?_
    refine r_get C (pc := 21) dX9_readAll_21 gf_X9_readAll_273 0 rfl rfl ?_
    refine r_iconst C (pc := 24) dX9_readAll_24 ?_
    refine r_iadd C (pc := 25) dX9_readAll_25 ?_
    refine r_let h (fun x26 h => ?_)
    refine r_puti C (pc := 26) dX9_readAll_26 pf_X9_readAll_273 0 rfl (Nat.le_of_ble_eq_true rfl) (ws' := w_X9_readAll (xG g) q (up (up F 27 this_place_11) 28 x26) c_this_text this_clause_11 this_told_11 this_toldBy_11 this_toldNumber_11) rfl ?_
    refine r_aload_n C (pc := 29) dX9_readAll_29 rfl 0 rfl ?_
    refine r_get C (pc := 30) dX9_readAll_30 gf_X9_readAll_273 0 rfl rfl ?_
    refine r_bipush C (pc := 33) dX9_readAll_33 rfl ?_
    refine jn_e (fun (k47 : Int → Option (Int × Int × Int × (Nat → Int) × (Nat → Int) × (Nat → Int) × (Nat → Int))) => ∀ (this_place_47 : Int), wp (k47 this_place_47) K → WW g 0 0 (w_X9_readAll (xG g) q (up (up F 27 this_place_47) 28 x26) c_this_text this_clause_11 this_told_11 this_toldBy_11 this_toldNumber_11) 47 [(0, .ref (q 35))] []) h (fun this_place_47 h => ?_) (fun k47 hk47 h => ?_)
    · refine r_aload_n C (pc := 47) dX9_readAll_47 rfl 0 rfl ?_
      refine r_get C (pc := 48) dX9_readAll_48 gf_X9_readAll_264 0 rfl rfl ?_
      refine r_aload_n C (pc := 51) dX9_readAll_51 rfl 0 rfl ?_
      refine r_get C (pc := 52) dX9_readAll_52 gf_X9_readAll_261 0 rfl rfl ?_
      refine jn_e (fun (k63 : Int → Option (Int × Int × Int × (Nat → Int) × (Nat → Int) × (Nat → Int) × (Nat → Int))) => ∀ (s0_63 : Int), wp (k63 s0_63) K → WW g 0 0 (w_X9_readAll (xG g) q (up (up F 27 this_place_47) 28 x26) c_this_text this_clause_11 this_told_11 this_toldBy_11 this_toldNumber_11) 63 [] [.int (jz s0_63)]) h (fun s0_63 h => ?_) (fun k63 hk63 h => ?_)
      · exact r_iret C (pc := 63) dX9_readAll_63 (hK s0_63 this_place_47 x26 this_clause_11 this_told_11 this_toldBy_11 this_toldNumber_11 (wp_s (wp_g h).2) (nB (wp_g h).1).1)
      · refine r_icmp_ne C (pc := 55) 62 dX9_readAll_55 rfl h (fun c55 h => ?_) (fun c55 h => ?_)
        · refine r_iconst C (pc := 62) dX9_readAll_62 ?_
          refine r_sub [] rfl ?_
          exact hk63 0 h
        · refine r_iconst C (pc := 58) dX9_readAll_58 ?_
          refine r_goto C (pc := 59) 63 dX9_readAll_59 rfl ?_
          refine r_sub [] rfl ?_
          exact hk63 1 h
    · refine r_icmp_ge C (pc := 35) 47 dX9_readAll_35 rfl h (fun c35 h => ?_) (fun c35 h => ?_)
      · exact hk47 this_place_11 h
      · refine r_aload_n C (pc := 38) dX9_readAll_38 rfl 0 rfl ?_
        refine r_bipush C (pc := 39) dX9_readAll_39 rfl ?_
        obtain ⟨r41, this_place_41, e41, h⟩ := wp_b2 h
        refine b_cVi C (pc := 41) dX9_readAll_41 (c_X9_takes (xl g) (xG g) q (up (up F 27 this_place_11) 28 x26) c_this_text 59 r41 this_place_41 e41) rfl gX9_readAll_X9_takes ⟨rfl, rfl⟩ 1 hd_X9_takes ⟨Nat.le_of_ble_eq_true rfl, Nat.le_of_ble_eq_true rfl⟩ rfl 0 rfl rfl rfl [0, 1] rfl (srt_nd 0 rfl) (ws' := w_X9_readAll (xG g) q (up (up F 27 this_place_41) 28 x26) c_this_text this_clause_11 this_told_11 this_toldBy_11 this_toldNumber_11) (Put.m rfl rfl rfl) rfl (rest := []) rfl (Nat.le_of_ble_eq_true rfl) ⟨Nat.zero_le _, Nat.zero_le _⟩ ?_
        refine r_if_ne C (pc := 44) 10 dX9_readAll_44 rfl h (fun c44 h => ?_) (fun c44 h => ?_)
        · exact hn10 this_place_41 x26 this_clause_11 this_told_11 this_toldBy_11 this_toldNumber_11 h
        · exact hk47 this_place_41 h
  · refine r_iconst C (pc := 17) dX9_readAll_17 ?_
    exact r_iret C (pc := 18) dX9_readAll_18 (hK 0 this_place_11 this_clauses_10 this_clause_11 this_told_11 this_toldBy_11 this_toldNumber_11 (wp_s h) (nB rfl).1)
theorem c_X9_readAll (l : Launch) (G : gG) (q : Nat → Nat) (F : Nat → Int) (c_this_text : Nat → Int) (c_this_clause : Nat → Int) (c_this_told : Nat → Int) (c_this_toldBy : Nat → Int) (c_this_toldNumber : Nat → Int) (r : Int) (o0 : Int) (o1 : Int) (o2 : Nat → Int) (o3 : Nat → Int) (o4 : Nat → Int) (o5 : Nat → Int) (hf : f_X9_readAll (F 15) (F 27) (F 28) c_this_text c_this_clause c_this_told c_this_toldBy c_this_toldNumber = some (r, o0, o1, o2, o3, o4, o5)) : CTi l yX9_readAll wsX9_readAll rm_X9_readAll G (w_X9_readAll G q F c_this_text c_this_clause c_this_told c_this_toldBy c_this_toldNumber) [.ref (q 35)] (jz r) (w_X9_readAll G q (up (up F 27 o0) 28 o1) c_this_text o2 o3 o4 o5) := CTi_of (by decide) rfl rfl (Nat.le_of_ble_eq_true rfl) (fun g C hG hl hF => by
    subst hG
    subst hl
    exact k_X9_readAll C q F c_this_text c_this_clause c_this_told c_this_toldBy c_this_toldNumber (fun x => x = (r, o0, o1, o2, o3, o4, o5)) (fun r' o0' o1' o2' o3' o4' o5' e => by cases e; exact hF) ⟨_, hf, rfl⟩)

-- TightHullsModel.isDone(I)Z
def f_X9_isDone (p1 : Int) (m_points : Int) (c_this_far : Nat → Int) (c_this_number : Nat → Int) (c_this_becomes : Nat → Int) (c_this_kept : Nat → Int) (c_this_clause : Nat → Int) (c_this_told : Nat → Int) (c_this_toldBy : Nat → Int) (c_this_toldNumber : Nat → Int) : Option (Int × Int × (Nat → Int) × (Nat → Int) × (Nat → Int) × (Nat → Int)) := grd (iin p1 12) (lv ((c_this_toldNumber (ix p1))) (fun x6 => grd (iin p1 12) (jn (lq2 (fun (n133 : Int → (Nat → Int) → Option (Int × Int × (Nat → Int) × (Nat → Int) × (Nat → Int) × (Nat → Int))) (v3_133 : Int) (this_far_133 : Nat → Int) => if ltI v3_133 m_points = true then (lq2 (fun (n144 : Int → (Nat → Int) → Option (Int × Int × (Nat → Int) × (Nat → Int) × (Nat → Int) × (Nat → Int))) (v4_144 : Int) (this_far_144 : Nat → Int) => if ltI v4_144 v3_133 = true then (grd (iin p1 12) (jn (fun (this_far_230 : Nat → Int) => n144 (v4_144 + 1) this_far_230) (fun (k230 : (Nat → Int) → Option (Int × Int × (Nat → Int) × (Nat → Int) × (Nat → Int) × (Nat → Int))) => if eqI (c_this_clause (ix p1)) 109 = true then (bd1 (f_X9_d v3_133 v4_144 this_far_144) (fun r171 => bd1 (f_X9_lays v3_133 v4_144 (minI 40 (r171 * x6)) this_far_144) (fun this_far_179 => k230 this_far_179))) else (grd (iin p1 12) (grd (iin p1 12) (if eqI (andI (shrI (c_this_told (ix p1)) v3_133) 1) (andI (shrI (c_this_told (ix p1)) v4_144) 1) = true then (k230 this_far_144) else (bd1 (f_X9_d v3_133 v4_144 this_far_144) (fun r219 => bd1 (f_X9_lays v3_133 v4_144 (minI 40 (r219 + x6)) this_far_144) (fun this_far_227 => k230 this_far_227))))))))) else (n133 (v3_133 + 1) this_far_144)) 300 0 this_far_133) else (some (1, m_points, this_far_133, c_this_number, c_this_becomes, c_this_kept))) 300 0 c_this_far) (fun (k131 : Option (Int × Int × (Nat → Int) × (Nat → Int) × (Nat → Int) × (Nat → Int))) => if eqI (c_this_clause (ix p1)) 100 = true then (grd (iin p1 12) (grd (iin p1 12) (bd2 (f_X9_set (c_this_told (ix p1)) (c_this_toldBy (ix p1)) x6 m_points c_this_far) (fun r89 this_far_89 => jn (fun (s0_100 : Int) => grd (isB s0_100) (some (s0_100, m_points, this_far_89, c_this_number, c_this_becomes, c_this_kept))) (fun (k100 : Int → Option (Int × Int × (Nat → Int) × (Nat → Int) × (Nat → Int) × (Nat → Int))) => if ltI r89 0 = true then (k100 0) else (k100 1)))))) else (if eqI (c_this_clause (ix p1)) 104 = true then (bd3 (f_X9_shorten m_points c_this_far c_this_kept) (fun r102 this_far_102 this_kept_102 => jn (fun (s0_113 : Int) => grd (isB s0_113) (some (s0_113, m_points, this_far_102, c_this_number, c_this_becomes, this_kept_102))) (fun (k113 : Int → Option (Int × Int × (Nat → Int) × (Nat → Int) × (Nat → Int) × (Nat → Int))) => if ltI r102 0 = true then (k113 0) else (k113 1)))) else (if eqI (c_this_clause (ix p1)) 110 = true then (grd (iin p1 12) (bd5 (f_X9_points (c_this_told (ix p1)) m_points c_this_far c_this_number c_this_becomes) (fun r63 this_points_63 this_far_63 this_number_63 this_becomes_63 => jn (fun (s0_74 : Int) => grd (isB s0_74) (some (s0_74, this_points_63, this_far_63, this_number_63, this_becomes_63, c_this_kept))) (fun (k74 : Int → Option (Int × Int × (Nat → Int) × (Nat → Int) × (Nat → Int) × (Nat → Int))) => if ltI r63 0 = true then (k74 0) else (k74 1))))) else (if eqI (c_this_clause (ix p1)) 115 = true then (grd (iin p1 12) (if ltI (c_this_told (ix p1)) (shlI 1 m_points) = true then k131 else (some (0, m_points, c_this_far, c_this_number, c_this_becomes, c_this_kept)))) else k131)))))))
abbrev rm_X9_isDone : Room := { frames := 4, cells := 0, slots := 0, locals := 104 }
abbrev w_X9_isDone (G : gG) (q : Nat → Nat) (F : Nat → Int) (c_this_far : Nat → Int) (c_this_number : Nat → Int) (c_this_becomes : Nat → Int) (c_this_kept : Nat → Int) (c_this_clause : Nat → Int) (c_this_told : Nat → Int) (c_this_toldBy : Nat → Int) (c_this_toldNumber : Nat → Int) : va_W := [((q 35), oX9 F q), ((q 1), aI G 25 c_this_far), ((q 2), aI G 5 c_this_number), ((q 3), aI G 5 c_this_becomes), ((q 20), aI G 25 c_this_kept), ((q 29), aI G 12 c_this_clause), ((q 30), aI G 12 c_this_told), ((q 31), aI G 12 c_this_toldBy), ((q 32), aI G 12 c_this_toldNumber)]
theorem hd_X9_isDone : yX9_isDone.cls = RX9 ∧ yX9_isDone.cls ≠ "java/lang/invoke/MethodHandle" ∧ yX9_isDone.cls ≠ "java/lang/invoke/VarHandle" ∧ (parseMethodDescriptor yX9_isDone.desc).map (fun d => d.parameters.length) = some 1 := by decide +kernel
theorem in_X9_isDone_X9 : ∀ w ∈ u_ws RX9 TX9 35, w ∈ wsX9_isDone := fun w h => List.mem_cons_of_mem _ (List.mem_append_right _ (h))
theorem gf_X9_isDone_89 : GF wsX9_isDone RX9 89 8 32 := ⟨RX9, TX9, 35, rfl, in_X9_isDone_X9, by decide, List.mem_of_getElem? (i := 1) rfl⟩
theorem gf_X9_isDone_80 : GF wsX9_isDone RX9 80 8 29 := ⟨RX9, TX9, 35, rfl, in_X9_isDone_X9, by decide, List.mem_of_getElem? (i := 2) rfl⟩
theorem gf_X9_isDone_9 : GF wsX9_isDone RX9 9 8 0 := ⟨RX9, TX9, 35, rfl, in_X9_isDone_X9, by decide, List.mem_of_getElem? (i := 5) rfl⟩
theorem gf_X9_isDone_83 : GF wsX9_isDone RX9 83 8 30 := ⟨RX9, TX9, 35, rfl, in_X9_isDone_X9, by decide, List.mem_of_getElem? (i := 3) rfl⟩
theorem mm_X9_isDone_6 : Cond.methodLink RX9 115 Lib.Math.min.name ∈ wsX9_isDone := List.mem_of_getElem? (i := 6) rfl
theorem mm_X9_isDone_7 : Cond.static Lib.Math.min.name ∈ wsX9_isDone := List.mem_of_getElem? (i := 7) rfl
theorem mm_X9_isDone_8 : Cond.initialized "java/lang/Math" ∈ wsX9_isDone := List.mem_of_getElem? (i := 8) rfl
theorem mm_X9_isDone_9 : Cond.code Lib.Math.min.name Lib.Math.min.code 2 (some .int) ∈ wsX9_isDone := List.mem_of_getElem? (i := 9) rfl
theorem gf_X9_isDone_86 : GF wsX9_isDone RX9 86 8 31 := ⟨RX9, TX9, 35, rfl, in_X9_isDone_X9, by decide, List.mem_of_getElem? (i := 4) rfl⟩
set_option maxRecDepth 100000 in
set_option maxHeartbeats 4000000 in
theorem k_X9_isDone {g : XC} (C : XOk g cX9_isDone RX9 wsX9_isDone rm_X9_isDone 5) (q : Nat → Nat) (F : Nat → Int) (c_this_far : Nat → Int) (c_this_number : Nat → Int) (c_this_becomes : Nat → Int) (c_this_kept : Nat → Int) (c_this_clause : Nat → Int) (c_this_told : Nat → Int) (c_this_toldBy : Nat → Int) (c_this_toldNumber : Nat → Int) (p1 : Int) (K : (Int × Int × (Nat → Int) × (Nat → Int) × (Nat → Int) × (Nat → Int)) → Prop) (hK : ∀ (r : Int) (o0 : Int) (o1 : Nat → Int) (o2 : Nat → Int) (o3 : Nat → Int) (o4 : Nat → Int), K (r, o0, o1, o2, o3, o4) → (narrow .boolean (.int (jz r)) = .int (jz r) → FinI g 0 0 (w_X9_isDone (xG g) q (up F 0 o0) o1 o2 o3 o4 c_this_clause c_this_told c_this_toldBy c_this_toldNumber) (jz r))) (h : wp (f_X9_isDone p1 (F 0) c_this_far c_this_number c_this_becomes c_this_kept c_this_clause c_this_told c_this_toldBy c_this_toldNumber) K) : WW g 0 0 (w_X9_isDone (xG g) q F c_this_far c_this_number c_this_becomes c_this_kept c_this_clause c_this_told c_this_toldBy c_this_toldNumber) 0 [(0, .ref (q 35)), (1, .int (jz p1))] [] := by
  unfold f_X9_isDone at h
  refine r_aload_n C (pc := 0) dX9_isDone_0 rfl 0 rfl ?_
  refine r_get C (pc := 1) dX9_isDone_1 gf_X9_isDone_89 0 rfl rfl ?_
  refine r_iload_n C (pc := 4) dX9_isDone_4 rfl 1 rfl ?_
  refine r_iald C (pc := 5) dX9_isDone_5 h 8 rfl (fun h => ?_)
  refine r_let h (fun x6 h => ?_)
  refine r_istore_n C (pc := 6) dX9_isDone_6 rfl (by decide) (L' := [(0, .ref (q 35)), (1, .int (jz p1)), (2, .int (jz x6))]) rfl ?_
  refine r_aload_n C (pc := 7) dX9_isDone_7 rfl 0 rfl ?_
  refine r_get C (pc := 8) dX9_isDone_8 gf_X9_isDone_80 0 rfl rfl ?_
  refine r_iload_n C (pc := 11) dX9_isDone_11 rfl 1 rfl ?_
  refine r_iald C (pc := 12) dX9_isDone_12 h 5 rfl (fun h => ?_)
  refine jn_e (fun (k131 : Option (Int × Int × (Nat → Int) × (Nat → Int) × (Nat → Int) × (Nat → Int))) => wp (k131) K → WW g 0 0 (w_X9_isDone (xG g) q F c_this_far c_this_number c_this_becomes c_this_kept c_this_clause c_this_told c_this_toldBy c_this_toldNumber) 131 [(0, .ref (q 35)), (1, .int (jz p1)), (2, .int (jz x6))] []) h (fun h => ?_) (fun k131 hk131 h => ?_)
  · refine r_iconst C (pc := 131) dX9_isDone_131 ?_
    refine r_istore_n C (pc := 132) dX9_isDone_132 rfl (by decide) (L' := [(0, .ref (q 35)), (1, .int (jz p1)), (2, .int (jz x6)), (3, .int (jz 0))]) rfl ?_
    refine lq2_e (fun (v3_133 : Int) (this_far_133 : Nat → Int) => WW g 0 0 (w_X9_isDone (xG g) q F this_far_133 c_this_number c_this_becomes c_this_kept c_this_clause c_this_told c_this_toldBy c_this_toldNumber) 133 [(0, .ref (q 35)), (1, .int (jz p1)), (2, .int (jz x6)), (3, .int (jz v3_133))] []) h (fun n133 hn133 v3_133 this_far_133 h => ?_)
    refine r_iload_n C (pc := 133) dX9_isDone_133 rfl 3 rfl ?_
    refine r_aload_n C (pc := 134) dX9_isDone_134 rfl 0 rfl ?_
    refine r_get C (pc := 135) dX9_isDone_135 gf_X9_isDone_9 0 rfl rfl ?_
    refine r_icmp_ge C (pc := 138) 242 dX9_isDone_138 rfl h (fun c138 h => ?_) (fun c138 h => ?_)
    · refine r_iconst C (pc := 242) dX9_isDone_242 ?_
      exact r_iret C (pc := 243) dX9_isDone_243 (hK 1 (F 0) this_far_133 c_this_number c_this_becomes c_this_kept (wp_s h) (nB rfl).1)
    · refine r_iconst C (pc := 141) dX9_isDone_141 ?_
      refine r_istore C (pc := 142) dX9_isDone_142 (by decide) (L' := [(0, .ref (q 35)), (1, .int (jz p1)), (2, .int (jz x6)), (3, .int (jz v3_133)), (4, .int (jz 0))]) rfl ?_
      refine lq2_e (fun (v4_144 : Int) (this_far_144 : Nat → Int) => WW g 0 0 (w_X9_isDone (xG g) q F this_far_144 c_this_number c_this_becomes c_this_kept c_this_clause c_this_told c_this_toldBy c_this_toldNumber) 144 [(0, .ref (q 35)), (1, .int (jz p1)), (2, .int (jz x6)), (3, .int (jz v3_133)), (4, .int (jz v4_144))] []) h (fun n144 hn144 v4_144 this_far_144 h => ?_)
      refine r_iload C (pc := 144) dX9_isDone_144 4 rfl ?_
      refine r_iload_n C (pc := 146) dX9_isDone_146 rfl 3 rfl ?_
      refine r_icmp_ge C (pc := 147) 236 dX9_isDone_147 rfl h (fun c147 h => ?_) (fun c147 h => ?_)
      · refine r_iinc C (pc := 236) dX9_isDone_236 3 rfl (by decide) (L' := [(0, .ref (q 35)), (1, .int (jz p1)), (2, .int (jz x6)), (3, .int (jz (v3_133 + 1))), (4, .int (jz v4_144))]) rfl ?_
        refine r_goto C (pc := 239) 133 dX9_isDone_239 rfl ?_
        refine r_sub [0, 1, 2, 3] rfl ?_
        exact hn133 (v3_133 + 1) this_far_144 h
      · refine r_aload_n C (pc := 150) dX9_isDone_150 rfl 0 rfl ?_
        refine r_get C (pc := 151) dX9_isDone_151 gf_X9_isDone_80 0 rfl rfl ?_
        refine r_iload_n C (pc := 154) dX9_isDone_154 rfl 1 rfl ?_
        refine r_iald C (pc := 155) dX9_isDone_155 h 5 rfl (fun h => ?_)
        refine r_bipush C (pc := 156) dX9_isDone_156 rfl ?_
        refine jn_e (fun (k230 : (Nat → Int) → Option (Int × Int × (Nat → Int) × (Nat → Int) × (Nat → Int) × (Nat → Int))) => ∀ (this_far_230 : Nat → Int), wp (k230 this_far_230) K → WW g 0 0 (w_X9_isDone (xG g) q F this_far_230 c_this_number c_this_becomes c_this_kept c_this_clause c_this_told c_this_toldBy c_this_toldNumber) 230 [(0, .ref (q 35)), (1, .int (jz p1)), (2, .int (jz x6)), (3, .int (jz v3_133)), (4, .int (jz v4_144))] []) h (fun this_far_230 h => ?_) (fun k230 hk230 h => ?_)
        · refine r_iinc C (pc := 230) dX9_isDone_230 4 rfl (by decide) (L' := [(0, .ref (q 35)), (1, .int (jz p1)), (2, .int (jz x6)), (3, .int (jz v3_133)), (4, .int (jz (v4_144 + 1)))]) rfl ?_
          refine r_goto C (pc := 233) 144 dX9_isDone_233 rfl ?_
          exact hn144 (v4_144 + 1) this_far_230 h
        · refine r_icmp_ne C (pc := 158) 185 dX9_isDone_158 rfl h (fun c158 h => ?_) (fun c158 h => ?_)
          · refine r_aload_n C (pc := 185) dX9_isDone_185 rfl 0 rfl ?_
            refine r_get C (pc := 186) dX9_isDone_186 gf_X9_isDone_83 0 rfl rfl ?_
            refine r_iload_n C (pc := 189) dX9_isDone_189 rfl 1 rfl ?_
            refine r_iald C (pc := 190) dX9_isDone_190 h 6 rfl (fun h => ?_)
            refine r_iload_n C (pc := 191) dX9_isDone_191 rfl 3 rfl ?_
            refine r_ishr C (pc := 192) dX9_isDone_192 ?_
            refine r_iconst C (pc := 193) dX9_isDone_193 ?_
            refine r_iand C (pc := 194) dX9_isDone_194 ?_
            refine r_aload_n C (pc := 195) dX9_isDone_195 rfl 0 rfl ?_
            refine r_get C (pc := 196) dX9_isDone_196 gf_X9_isDone_83 0 rfl rfl ?_
            refine r_iload_n C (pc := 199) dX9_isDone_199 rfl 1 rfl ?_
            refine r_iald C (pc := 200) dX9_isDone_200 h 6 rfl (fun h => ?_)
            refine r_iload C (pc := 201) dX9_isDone_201 4 rfl ?_
            refine r_ishr C (pc := 203) dX9_isDone_203 ?_
            refine r_iconst C (pc := 204) dX9_isDone_204 ?_
            refine r_iand C (pc := 205) dX9_isDone_205 ?_
            refine r_icmp_eq C (pc := 206) 230 dX9_isDone_206 rfl h (fun c206 h => ?_) (fun c206 h => ?_)
            · exact hk230 this_far_144 h
            · refine r_aload_n C (pc := 209) dX9_isDone_209 rfl 0 rfl ?_
              refine r_iload_n C (pc := 210) dX9_isDone_210 rfl 3 rfl ?_
              refine r_iload C (pc := 211) dX9_isDone_211 4 rfl ?_
              refine r_bipush C (pc := 213) dX9_isDone_213 rfl ?_
              refine r_aload_n C (pc := 215) dX9_isDone_215 rfl 0 rfl ?_
              refine r_iload_n C (pc := 216) dX9_isDone_216 rfl 3 rfl ?_
              refine r_iload C (pc := 217) dX9_isDone_217 4 rfl ?_
              obtain ⟨r219, e219, h⟩ := wp_b1 h
              refine b_cVi C (pc := 219) dX9_isDone_219 (c_X9_d (xl g) (xG g) q F this_far_144 v3_133 v4_144 r219 e219) rfl gX9_isDone_X9_d ⟨rfl, rfl⟩ 2 hd_X9_d ⟨Nat.le_of_ble_eq_true rfl, Nat.le_of_ble_eq_true rfl⟩ rfl 0 rfl rfl rfl [0, 1] rfl (srt_nd 0 rfl) (ws' := w_X9_isDone (xG g) q F this_far_144 c_this_number c_this_becomes c_this_kept c_this_clause c_this_told c_this_toldBy c_this_toldNumber) (Put.m rfl rfl rfl) rfl (rest := [.int (jz 40), .int (jz v4_144), .int (jz v3_133), .ref (q 35)]) rfl (Nat.le_of_ble_eq_true rfl) ⟨Nat.zero_le _, Nat.zero_le _⟩ ?_
              refine r_iload_n C (pc := 222) dX9_isDone_222 rfl 2 rfl ?_
              refine r_iadd C (pc := 223) dX9_isDone_223 ?_
              refine r_mmin C (pc := 224) dX9_isDone_224 mm_X9_isDone_6 mm_X9_isDone_7 mm_X9_isDone_8 mm_X9_isDone_9 (Nat.le_of_ble_eq_true rfl) (Nat.le_of_ble_eq_true rfl) ⟨Nat.zero_le _, Nat.zero_le _⟩ ?_
              obtain ⟨this_far_227, e227, h⟩ := wp_b1 h
              refine b_cVv C (pc := 227) dX9_isDone_227 (c_X9_lays (xl g) (xG g) q F this_far_144 v3_133 v4_144 (minI 40 (r219 + x6)) this_far_227 e227) rfl gX9_isDone_X9_lays ⟨rfl, rfl⟩ 3 hd_X9_lays ⟨Nat.le_of_ble_eq_true rfl, Nat.le_of_ble_eq_true rfl⟩ rfl 0 rfl rfl rfl [0, 1] rfl (srt_nd 0 rfl) (ws' := w_X9_isDone (xG g) q F this_far_227 c_this_number c_this_becomes c_this_kept c_this_clause c_this_told c_this_toldBy c_this_toldNumber) (Put.m rfl rfl rfl) rfl (rest := []) rfl (Nat.le_of_ble_eq_true rfl) ⟨Nat.zero_le _, Nat.zero_le _⟩ ?_
              exact hk230 this_far_227 h
          · refine r_aload_n C (pc := 161) dX9_isDone_161 rfl 0 rfl ?_
            refine r_iload_n C (pc := 162) dX9_isDone_162 rfl 3 rfl ?_
            refine r_iload C (pc := 163) dX9_isDone_163 4 rfl ?_
            refine r_bipush C (pc := 165) dX9_isDone_165 rfl ?_
            refine r_aload_n C (pc := 167) dX9_isDone_167 rfl 0 rfl ?_
            refine r_iload_n C (pc := 168) dX9_isDone_168 rfl 3 rfl ?_
            refine r_iload C (pc := 169) dX9_isDone_169 4 rfl ?_
            obtain ⟨r171, e171, h⟩ := wp_b1 h
            refine b_cVi C (pc := 171) dX9_isDone_171 (c_X9_d (xl g) (xG g) q F this_far_144 v3_133 v4_144 r171 e171) rfl gX9_isDone_X9_d ⟨rfl, rfl⟩ 2 hd_X9_d ⟨Nat.le_of_ble_eq_true rfl, Nat.le_of_ble_eq_true rfl⟩ rfl 0 rfl rfl rfl [0, 1] rfl (srt_nd 0 rfl) (ws' := w_X9_isDone (xG g) q F this_far_144 c_this_number c_this_becomes c_this_kept c_this_clause c_this_told c_this_toldBy c_this_toldNumber) (Put.m rfl rfl rfl) rfl (rest := [.int (jz 40), .int (jz v4_144), .int (jz v3_133), .ref (q 35)]) rfl (Nat.le_of_ble_eq_true rfl) ⟨Nat.zero_le _, Nat.zero_le _⟩ ?_
            refine r_iload_n C (pc := 174) dX9_isDone_174 rfl 2 rfl ?_
            refine r_imul C (pc := 175) dX9_isDone_175 ?_
            refine r_mmin C (pc := 176) dX9_isDone_176 mm_X9_isDone_6 mm_X9_isDone_7 mm_X9_isDone_8 mm_X9_isDone_9 (Nat.le_of_ble_eq_true rfl) (Nat.le_of_ble_eq_true rfl) ⟨Nat.zero_le _, Nat.zero_le _⟩ ?_
            obtain ⟨this_far_179, e179, h⟩ := wp_b1 h
            refine b_cVv C (pc := 179) dX9_isDone_179 (c_X9_lays (xl g) (xG g) q F this_far_144 v3_133 v4_144 (minI 40 (r171 * x6)) this_far_179 e179) rfl gX9_isDone_X9_lays ⟨rfl, rfl⟩ 3 hd_X9_lays ⟨Nat.le_of_ble_eq_true rfl, Nat.le_of_ble_eq_true rfl⟩ rfl 0 rfl rfl rfl [0, 1] rfl (srt_nd 0 rfl) (ws' := w_X9_isDone (xG g) q F this_far_179 c_this_number c_this_becomes c_this_kept c_this_clause c_this_told c_this_toldBy c_this_toldNumber) (Put.m rfl rfl rfl) rfl (rest := []) rfl (Nat.le_of_ble_eq_true rfl) ⟨Nat.zero_le _, Nat.zero_le _⟩ ?_
            refine r_goto C (pc := 182) 230 dX9_isDone_182 rfl ?_
            exact hk230 this_far_179 h
  · refine sw1 h (fun b13_0 h => ?_) (fun b13_0 h => ?_)
    · refine r_lookup C (pc := 13) 75 dX9_isDone_13 (by decide) (lk_eq (z := 100) b13_0 _ _ rfl) rfl ?_
      refine r_aload_n C (pc := 75) dX9_isDone_75 rfl 0 rfl ?_
      refine r_aload_n C (pc := 76) dX9_isDone_76 rfl 0 rfl ?_
      refine r_get C (pc := 77) dX9_isDone_77 gf_X9_isDone_83 0 rfl rfl ?_
      refine r_iload_n C (pc := 80) dX9_isDone_80 rfl 1 rfl ?_
      refine r_iald C (pc := 81) dX9_isDone_81 h 6 rfl (fun h => ?_)
      refine r_aload_n C (pc := 82) dX9_isDone_82 rfl 0 rfl ?_
      refine r_get C (pc := 83) dX9_isDone_83 gf_X9_isDone_86 0 rfl rfl ?_
      refine r_iload_n C (pc := 86) dX9_isDone_86 rfl 1 rfl ?_
      refine r_iald C (pc := 87) dX9_isDone_87 h 7 rfl (fun h => ?_)
      refine r_iload_n C (pc := 88) dX9_isDone_88 rfl 2 rfl ?_
      obtain ⟨r89, this_far_89, e89, h⟩ := wp_b2 h
      refine b_cVi C (pc := 89) dX9_isDone_89 (c_X9_set (xl g) (xG g) q F c_this_far (c_this_told (ix p1)) (c_this_toldBy (ix p1)) x6 r89 this_far_89 e89) rfl gX9_isDone_X9_set ⟨rfl, rfl⟩ 3 hd_X9_set ⟨Nat.le_of_ble_eq_true rfl, Nat.le_of_ble_eq_true rfl⟩ rfl 0 rfl rfl rfl [0, 1] rfl (srt_nd 0 rfl) (ws' := w_X9_isDone (xG g) q F this_far_89 c_this_number c_this_becomes c_this_kept c_this_clause c_this_told c_this_toldBy c_this_toldNumber) (Put.m rfl rfl rfl) rfl (rest := []) rfl (Nat.le_of_ble_eq_true rfl) ⟨Nat.zero_le _, Nat.zero_le _⟩ ?_
      refine jn_e (fun (k100 : Int → Option (Int × Int × (Nat → Int) × (Nat → Int) × (Nat → Int) × (Nat → Int))) => ∀ (s0_100 : Int), wp (k100 s0_100) K → WW g 0 0 (w_X9_isDone (xG g) q F this_far_89 c_this_number c_this_becomes c_this_kept c_this_clause c_this_told c_this_toldBy c_this_toldNumber) 100 [] [.int (jz s0_100)]) h (fun s0_100 h => ?_) (fun k100 hk100 h => ?_)
      · exact r_iret C (pc := 100) dX9_isDone_100 (hK s0_100 (F 0) this_far_89 c_this_number c_this_becomes c_this_kept (wp_s (wp_g h).2) (nB (wp_g h).1).1)
      · refine r_if_lt C (pc := 92) 99 dX9_isDone_92 rfl h (fun c92 h => ?_) (fun c92 h => ?_)
        · refine r_iconst C (pc := 99) dX9_isDone_99 ?_
          refine r_sub [] rfl ?_
          exact hk100 0 h
        · refine r_iconst C (pc := 95) dX9_isDone_95 ?_
          refine r_goto C (pc := 96) 100 dX9_isDone_96 rfl ?_
          refine r_sub [] rfl ?_
          exact hk100 1 h
    · refine sw1 h (fun b13_1 h => ?_) (fun b13_1 h => ?_)
      · refine r_lookup C (pc := 13) 101 dX9_isDone_13 (by decide) ((lk_ne (z := 100) b13_0 rfl).trans (lk_eq (z := 104) b13_1 _ _ rfl)) rfl ?_
        refine r_aload_n C (pc := 101) dX9_isDone_101 rfl 0 rfl ?_
        obtain ⟨r102, this_far_102, this_kept_102, e102, h⟩ := wp_b3 h
        refine b_cVi C (pc := 102) dX9_isDone_102 (c_X9_shorten (xl g) (xG g) q F c_this_far c_this_kept r102 this_far_102 this_kept_102 e102) rfl gX9_isDone_X9_shorten ⟨rfl, rfl⟩ 0 hd_X9_shorten ⟨Nat.le_of_ble_eq_true rfl, Nat.le_of_ble_eq_true rfl⟩ rfl 0 rfl rfl rfl [0, 1, 4] rfl (srt_nd 0 rfl) (ws' := w_X9_isDone (xG g) q F this_far_102 c_this_number c_this_becomes this_kept_102 c_this_clause c_this_told c_this_toldBy c_this_toldNumber) (Put.m rfl rfl rfl) rfl (rest := []) rfl (Nat.le_of_ble_eq_true rfl) ⟨Nat.zero_le _, Nat.zero_le _⟩ ?_
        refine jn_e (fun (k113 : Int → Option (Int × Int × (Nat → Int) × (Nat → Int) × (Nat → Int) × (Nat → Int))) => ∀ (s0_113 : Int), wp (k113 s0_113) K → WW g 0 0 (w_X9_isDone (xG g) q F this_far_102 c_this_number c_this_becomes this_kept_102 c_this_clause c_this_told c_this_toldBy c_this_toldNumber) 113 [] [.int (jz s0_113)]) h (fun s0_113 h => ?_) (fun k113 hk113 h => ?_)
        · exact r_iret C (pc := 113) dX9_isDone_113 (hK s0_113 (F 0) this_far_102 c_this_number c_this_becomes this_kept_102 (wp_s (wp_g h).2) (nB (wp_g h).1).1)
        · refine r_if_lt C (pc := 105) 112 dX9_isDone_105 rfl h (fun c105 h => ?_) (fun c105 h => ?_)
          · refine r_iconst C (pc := 112) dX9_isDone_112 ?_
            refine r_sub [] rfl ?_
            exact hk113 0 h
          · refine r_iconst C (pc := 108) dX9_isDone_108 ?_
            refine r_goto C (pc := 109) 113 dX9_isDone_109 rfl ?_
            refine r_sub [] rfl ?_
            exact hk113 1 h
      · refine sw1 h (fun b13_2 h => ?_) (fun b13_2 h => ?_)
        · refine r_lookup C (pc := 13) 56 dX9_isDone_13 (by decide) ((lk_ne (z := 100) b13_0 rfl).trans ((lk_ne (z := 104) b13_1 rfl).trans (lk_eq (z := 110) b13_2 _ _ rfl))) rfl ?_
          refine r_aload_n C (pc := 56) dX9_isDone_56 rfl 0 rfl ?_
          refine r_aload_n C (pc := 57) dX9_isDone_57 rfl 0 rfl ?_
          refine r_get C (pc := 58) dX9_isDone_58 gf_X9_isDone_83 0 rfl rfl ?_
          refine r_iload_n C (pc := 61) dX9_isDone_61 rfl 1 rfl ?_
          refine r_iald C (pc := 62) dX9_isDone_62 h 6 rfl (fun h => ?_)
          obtain ⟨r63, this_points_63, this_far_63, this_number_63, this_becomes_63, e63, h⟩ := wp_b5 h
          refine b_cVi C (pc := 63) dX9_isDone_63 (c_X9_points (xl g) (xG g) q F c_this_far c_this_number c_this_becomes (c_this_told (ix p1)) r63 this_points_63 this_far_63 this_number_63 this_becomes_63 e63) rfl gX9_isDone_X9_points ⟨rfl, rfl⟩ 1 hd_X9_points ⟨Nat.le_of_ble_eq_true rfl, Nat.le_of_ble_eq_true rfl⟩ rfl 0 rfl rfl rfl [0, 1, 2, 3] rfl (srt_nd 0 rfl) (ws' := w_X9_isDone (xG g) q (up F 0 this_points_63) this_far_63 this_number_63 this_becomes_63 c_this_kept c_this_clause c_this_told c_this_toldBy c_this_toldNumber) (Put.m rfl rfl rfl) rfl (rest := []) rfl (Nat.le_of_ble_eq_true rfl) ⟨Nat.zero_le _, Nat.zero_le _⟩ ?_
          refine jn_e (fun (k74 : Int → Option (Int × Int × (Nat → Int) × (Nat → Int) × (Nat → Int) × (Nat → Int))) => ∀ (s0_74 : Int), wp (k74 s0_74) K → WW g 0 0 (w_X9_isDone (xG g) q (up F 0 this_points_63) this_far_63 this_number_63 this_becomes_63 c_this_kept c_this_clause c_this_told c_this_toldBy c_this_toldNumber) 74 [] [.int (jz s0_74)]) h (fun s0_74 h => ?_) (fun k74 hk74 h => ?_)
          · exact r_iret C (pc := 74) dX9_isDone_74 (hK s0_74 this_points_63 this_far_63 this_number_63 this_becomes_63 c_this_kept (wp_s (wp_g h).2) (nB (wp_g h).1).1)
          · refine r_if_lt C (pc := 66) 73 dX9_isDone_66 rfl h (fun c66 h => ?_) (fun c66 h => ?_)
            · refine r_iconst C (pc := 73) dX9_isDone_73 ?_
              refine r_sub [] rfl ?_
              exact hk74 0 h
            · refine r_iconst C (pc := 69) dX9_isDone_69 ?_
              refine r_goto C (pc := 70) 74 dX9_isDone_70 rfl ?_
              refine r_sub [] rfl ?_
              exact hk74 1 h
        · refine sw1 h (fun b13_3 h => ?_) (fun b13_3 h => ?_)
          · refine r_lookup C (pc := 13) 114 dX9_isDone_13 (by decide) ((lk_ne (z := 100) b13_0 rfl).trans ((lk_ne (z := 104) b13_1 rfl).trans ((lk_ne (z := 110) b13_2 rfl).trans (lk_eq (z := 115) b13_3 _ _ rfl)))) rfl ?_
            refine r_aload_n C (pc := 114) dX9_isDone_114 rfl 0 rfl ?_
            refine r_get C (pc := 115) dX9_isDone_115 gf_X9_isDone_83 0 rfl rfl ?_
            refine r_iload_n C (pc := 118) dX9_isDone_118 rfl 1 rfl ?_
            refine r_iald C (pc := 119) dX9_isDone_119 h 6 rfl (fun h => ?_)
            refine r_iconst C (pc := 120) dX9_isDone_120 ?_
            refine r_aload_n C (pc := 121) dX9_isDone_121 rfl 0 rfl ?_
            refine r_get C (pc := 122) dX9_isDone_122 gf_X9_isDone_9 0 rfl rfl ?_
            refine r_ishl C (pc := 125) dX9_isDone_125 ?_
            refine r_icmp_lt C (pc := 126) 131 dX9_isDone_126 rfl h (fun c126 h => ?_) (fun c126 h => ?_)
            · exact hk131 h
            · refine r_iconst C (pc := 129) dX9_isDone_129 ?_
              exact r_iret C (pc := 130) dX9_isDone_130 (hK 0 (F 0) c_this_far c_this_number c_this_becomes c_this_kept (wp_s h) (nB rfl).1)
          · refine r_lookup C (pc := 13) 131 dX9_isDone_13 (by decide) ((lk_ne (z := 100) b13_0 rfl).trans ((lk_ne (z := 104) b13_1 rfl).trans ((lk_ne (z := 110) b13_2 rfl).trans ((lk_ne (z := 115) b13_3 rfl).trans (rfl))))) rfl ?_
            exact hk131 h
theorem c_X9_isDone (l : Launch) (G : gG) (q : Nat → Nat) (F : Nat → Int) (c_this_far : Nat → Int) (c_this_number : Nat → Int) (c_this_becomes : Nat → Int) (c_this_kept : Nat → Int) (c_this_clause : Nat → Int) (c_this_told : Nat → Int) (c_this_toldBy : Nat → Int) (c_this_toldNumber : Nat → Int) (p1 : Int) (r : Int) (o0 : Int) (o1 : Nat → Int) (o2 : Nat → Int) (o3 : Nat → Int) (o4 : Nat → Int) (hf : f_X9_isDone p1 (F 0) c_this_far c_this_number c_this_becomes c_this_kept c_this_clause c_this_told c_this_toldBy c_this_toldNumber = some (r, o0, o1, o2, o3, o4)) : CTi l yX9_isDone wsX9_isDone rm_X9_isDone G (w_X9_isDone G q F c_this_far c_this_number c_this_becomes c_this_kept c_this_clause c_this_told c_this_toldBy c_this_toldNumber) [.ref (q 35), .int (jz p1)] (jz r) (w_X9_isDone G q (up F 0 o0) o1 o2 o3 o4 c_this_clause c_this_told c_this_toldBy c_this_toldNumber) := CTi_of (by decide) rfl rfl (Nat.le_of_ble_eq_true rfl) (fun g C hG hl hF => by
    subst hG
    subst hl
    exact k_X9_isDone C q F c_this_far c_this_number c_this_becomes c_this_kept c_this_clause c_this_told c_this_toldBy c_this_toldNumber p1 (fun x => x = (r, o0, o1, o2, o3, o4)) (fun r' o0' o1' o2' o3' o4' e => by cases e; exact hF) ⟨_, hf, rfl⟩)

-- TightHullsModel.read()I
def f_X9_read (m_points : Int) (m_texts : Int) (m_place : Int) (m_clauses : Int) (c_this_far : Nat → Int) (c_this_number : Nat → Int) (c_this_becomes : Nat → Int) (c_this_text : Nat → Int) (c_this_kept : Nat → Int) (c_this_clause : Nat → Int) (c_this_told : Nat → Int) (c_this_toldBy : Nat → Int) (c_this_toldNumber : Nat → Int) : Option (Int × Int × Int × Int × Int × (Nat → Int) × (Nat → Int) × (Nat → Int) × (Nat → Int) × (Nat → Int) × (Nat → Int) × (Nat → Int) × (Nat → Int)) := bd7 (f_X9_readAll m_texts m_place m_clauses c_this_text c_this_clause c_this_told c_this_toldBy c_this_toldNumber) (fun r1 this_place_1 this_clauses_1 this_clause_1 this_told_1 this_toldBy_1 this_toldNumber_1 => if eqI r1 0 = true then (some (((-10) - this_place_1), m_points, 0, this_place_1, this_clauses_1, c_this_far, c_this_number, c_this_becomes, c_this_kept, this_clause_1, this_told_1, this_toldBy_1, this_toldNumber_1)) else (lq7 (fun (n26 : Int → Int → Int → (Nat → Int) → (Nat → Int) → (Nat → Int) → (Nat → Int) → Option (Int × Int × Int × Int × Int × (Nat → Int) × (Nat → Int) × (Nat → Int) × (Nat → Int) × (Nat → Int) × (Nat → Int) × (Nat → Int) × (Nat → Int))) (v2_26 : Int) (v3_26 : Int) (this_points_26 : Int) (this_far_26 : Nat → Int) (this_number_26 : Nat → Int) (this_becomes_26 : Nat → Int) (this_kept_26 : Nat → Int) => if ltI v3_26 this_clauses_1 = true then (bd6 (f_X9_isDone v3_26 this_points_26 this_far_26 this_number_26 this_becomes_26 this_kept_26 this_clause_1 this_told_1 this_toldBy_1 this_toldNumber_1) (fun r37 this_points_37 this_far_37 this_number_37 this_becomes_37 this_kept_37 => jn (fun (s1_48 : Int) => lv ((v2_26 + s1_48)) (fun x49 => n26 x49 (v3_26 + 1) this_points_37 this_far_37 this_number_37 this_becomes_37 this_kept_37)) (fun (k48 : Int → Option (Int × Int × Int × Int × Int × (Nat → Int) × (Nat → Int) × (Nat → Int) × (Nat → Int) × (Nat → Int) × (Nat → Int) × (Nat → Int) × (Nat → Int))) => if eqI r37 0 = true then (k48 0) else (k48 1)))) else (some (v2_26, this_points_26, 0, this_place_1, this_clauses_1, this_far_26, this_number_26, this_becomes_26, this_kept_26, this_clause_1, this_told_1, this_toldBy_1, this_toldNumber_1))) 300 0 0 m_points c_this_far c_this_number c_this_becomes c_this_kept))
abbrev rm_X9_read : Room := { frames := 5, cells := 0, slots := 0, locals := 128 }
abbrev w_X9_read (G : gG) (q : Nat → Nat) (F : Nat → Int) (c_this_far : Nat → Int) (c_this_number : Nat → Int) (c_this_becomes : Nat → Int) (c_this_text : Nat → Int) (c_this_kept : Nat → Int) (c_this_clause : Nat → Int) (c_this_told : Nat → Int) (c_this_toldBy : Nat → Int) (c_this_toldNumber : Nat → Int) : va_W := [((q 35), oX9 F q), ((q 1), aI G 25 c_this_far), ((q 2), aI G 5 c_this_number), ((q 3), aI G 5 c_this_becomes), ((q 14), aI G 100 c_this_text), ((q 20), aI G 25 c_this_kept), ((q 29), aI G 12 c_this_clause), ((q 30), aI G 12 c_this_told), ((q 31), aI G 12 c_this_toldBy), ((q 32), aI G 12 c_this_toldNumber)]
theorem hd_X9_read : yX9_read.cls = RX9 ∧ yX9_read.cls ≠ "java/lang/invoke/MethodHandle" ∧ yX9_read.cls ≠ "java/lang/invoke/VarHandle" ∧ (parseMethodDescriptor yX9_read.desc).map (fun d => d.parameters.length) = some 0 := by decide +kernel
theorem in_X9_read_X9 : ∀ w ∈ u_ws RX9 TX9 35, w ∈ wsX9_read := fun w h => List.mem_cons_of_mem _ (List.mem_append_right _ (h))
theorem pf_X9_read_261 : PF wsX9_read RX9 261 8 15 .int false := ⟨RX9, TX9, 35, tyX9, rfl, in_X9_read_X9, tyX9_ok, nmX9, by decide, List.mem_of_getElem? (i := 1) rfl, rfl, rfl, rfl⟩
theorem gf_X9_read_273 : GF wsX9_read RX9 273 8 28 := ⟨RX9, TX9, 35, rfl, in_X9_read_X9, by decide, List.mem_of_getElem? (i := 3) rfl⟩
theorem gf_X9_read_264 : GF wsX9_read RX9 264 8 27 := ⟨RX9, TX9, 35, rfl, in_X9_read_X9, by decide, List.mem_of_getElem? (i := 2) rfl⟩
set_option maxRecDepth 100000 in
set_option maxHeartbeats 4000000 in
theorem k_X9_read {g : XC} (C : XOk g cX9_read RX9 wsX9_read rm_X9_read 4) (q : Nat → Nat) (F : Nat → Int) (c_this_far : Nat → Int) (c_this_number : Nat → Int) (c_this_becomes : Nat → Int) (c_this_text : Nat → Int) (c_this_kept : Nat → Int) (c_this_clause : Nat → Int) (c_this_told : Nat → Int) (c_this_toldBy : Nat → Int) (c_this_toldNumber : Nat → Int)  (K : (Int × Int × Int × Int × Int × (Nat → Int) × (Nat → Int) × (Nat → Int) × (Nat → Int) × (Nat → Int) × (Nat → Int) × (Nat → Int) × (Nat → Int)) → Prop) (hK : ∀ (r : Int) (o0 : Int) (o1 : Int) (o2 : Int) (o3 : Int) (o4 : Nat → Int) (o5 : Nat → Int) (o6 : Nat → Int) (o7 : Nat → Int) (o8 : Nat → Int) (o9 : Nat → Int) (o10 : Nat → Int) (o11 : Nat → Int), K (r, o0, o1, o2, o3, o4, o5, o6, o7, o8, o9, o10, o11) → (narrow .int (.int (jz r)) = .int (jz r) → FinI g 0 0 (w_X9_read (xG g) q (up (up (up (up F 0 o0) 15 o1) 27 o2) 28 o3) o4 o5 o6 c_this_text o7 o8 o9 o10 o11) (jz r))) (h : wp (f_X9_read (F 0) (F 15) (F 27) (F 28) c_this_far c_this_number c_this_becomes c_this_text c_this_kept c_this_clause c_this_told c_this_toldBy c_this_toldNumber) K) : WW g 0 0 (w_X9_read (xG g) q F c_this_far c_this_number c_this_becomes c_this_text c_this_kept c_this_clause c_this_told c_this_toldBy c_this_toldNumber) 0 [(0, .ref (q 35))] [] := by
  unfold f_X9_read at h
  refine r_aload_n C (pc := 0) dX9_read_0 rfl 0 rfl ?_
  obtain ⟨r1, this_place_1, this_clauses_1, this_clause_1, this_told_1, this_toldBy_1, this_toldNumber_1, e1, h⟩ := wp_b7 h
  refine b_cVi C (pc := 1) dX9_read_1 (c_X9_readAll (xl g) (xG g) q F c_this_text c_this_clause c_this_told c_this_toldBy c_this_toldNumber r1 this_place_1 this_clauses_1 this_clause_1 this_told_1 this_toldBy_1 this_toldNumber_1 e1) rfl gX9_read_X9_readAll ⟨rfl, rfl⟩ 0 hd_X9_readAll ⟨Nat.le_of_ble_eq_true rfl, Nat.le_of_ble_eq_true rfl⟩ rfl 0 rfl rfl rfl [0, 4, 6, 7, 8, 9] rfl (srt_nd 0 rfl) (ws' := w_X9_read (xG g) q (up (up F 27 this_place_1) 28 this_clauses_1) c_this_far c_this_number c_this_becomes c_this_text c_this_kept this_clause_1 this_told_1 this_toldBy_1 this_toldNumber_1) (Put.m rfl rfl rfl) rfl (rest := []) rfl (Nat.le_of_ble_eq_true rfl) ⟨Nat.zero_le _, Nat.zero_le _⟩ ?_
  refine r_istore_n C (pc := 4) dX9_read_4 rfl (by decide) (L' := [(0, .ref (q 35)), (1, .int (jz r1))]) rfl ?_
  refine r_aload_n C (pc := 5) dX9_read_5 rfl 0 rfl ?_
  refine r_iconst C (pc := 6) dX9_read_6 ?_
  refine r_puti C (pc := 7) dX9_read_7 pf_X9_read_261 0 rfl (Nat.le_of_ble_eq_true rfl) (ws' := w_X9_read (xG g) q (up (up (up F 15 0) 27 this_place_1) 28 this_clauses_1) c_this_far c_this_number c_this_becomes c_this_text c_this_kept this_clause_1 this_told_1 this_toldBy_1 this_toldNumber_1) rfl ?_
  refine r_iload_n C (pc := 10) dX9_read_10 rfl 1 rfl ?_
  refine r_if_ne C (pc := 11) 22 dX9_read_11 rfl h (fun c11 h => ?_) (fun c11 h => ?_)
  · refine r_iconst C (pc := 22) dX9_read_22 ?_
    refine r_istore_n C (pc := 23) dX9_read_23 rfl (by decide) (L' := [(0, .ref (q 35)), (1, .int (jz r1)), (2, .int (jz 0))]) rfl ?_
    refine r_iconst C (pc := 24) dX9_read_24 ?_
    refine r_istore_n C (pc := 25) dX9_read_25 rfl (by decide) (L' := [(0, .ref (q 35)), (1, .int (jz r1)), (2, .int (jz 0)), (3, .int (jz 0))]) rfl ?_
    refine r_sub [0, 2, 3] rfl ?_
    refine lq7_e (fun (v2_26 : Int) (v3_26 : Int) (this_points_26 : Int) (this_far_26 : Nat → Int) (this_number_26 : Nat → Int) (this_becomes_26 : Nat → Int) (this_kept_26 : Nat → Int) => WW g 0 0 (w_X9_read (xG g) q (up (up (up (up F 0 this_points_26) 15 0) 27 this_place_1) 28 this_clauses_1) this_far_26 this_number_26 this_becomes_26 c_this_text this_kept_26 this_clause_1 this_told_1 this_toldBy_1 this_toldNumber_1) 26 [(0, .ref (q 35)), (2, .int (jz v2_26)), (3, .int (jz v3_26))] []) h (fun n26 hn26 v2_26 v3_26 this_points_26 this_far_26 this_number_26 this_becomes_26 this_kept_26 h => ?_)
    refine r_iload_n C (pc := 26) dX9_read_26 rfl 2 rfl ?_
    refine r_aload_n C (pc := 27) dX9_read_27 rfl 0 rfl ?_
    refine r_get C (pc := 28) dX9_read_28 gf_X9_read_273 0 rfl rfl ?_
    refine r_icmp_ge C (pc := 31) 56 dX9_read_31 rfl h (fun c31 h => ?_) (fun c31 h => ?_)
    · refine r_iload_n C (pc := 56) dX9_read_56 rfl 1 rfl ?_
      exact r_iret C (pc := 57) dX9_read_57 (hK v2_26 this_points_26 0 this_place_1 this_clauses_1 this_far_26 this_number_26 this_becomes_26 this_kept_26 this_clause_1 this_told_1 this_toldBy_1 this_toldNumber_1 (wp_s h) rfl)
    · refine r_iload_n C (pc := 34) dX9_read_34 rfl 1 rfl ?_
      refine r_aload_n C (pc := 35) dX9_read_35 rfl 0 rfl ?_
      refine r_iload_n C (pc := 36) dX9_read_36 rfl 2 rfl ?_
      obtain ⟨r37, this_points_37, this_far_37, this_number_37, this_becomes_37, this_kept_37, e37, h⟩ := wp_b6 h
      refine b_cVi C (pc := 37) dX9_read_37 (c_X9_isDone (xl g) (xG g) q (up (up (up (up F 0 this_points_26) 15 0) 27 this_place_1) 28 this_clauses_1) this_far_26 this_number_26 this_becomes_26 this_kept_26 this_clause_1 this_told_1 this_toldBy_1 this_toldNumber_1 v3_26 r37 this_points_37 this_far_37 this_number_37 this_becomes_37 this_kept_37 e37) rfl gX9_read_X9_isDone ⟨rfl, rfl⟩ 1 hd_X9_isDone ⟨Nat.le_of_ble_eq_true rfl, Nat.le_of_ble_eq_true rfl⟩ rfl 0 rfl rfl rfl [0, 1, 2, 3, 5, 6, 7, 8, 9] rfl (srt_nd 0 rfl) (ws' := w_X9_read (xG g) q (up (up (up (up F 0 this_points_37) 15 0) 27 this_place_1) 28 this_clauses_1) this_far_37 this_number_37 this_becomes_37 c_this_text this_kept_37 this_clause_1 this_told_1 this_toldBy_1 this_toldNumber_1) (Put.m rfl rfl rfl) rfl (rest := [.int (jz v2_26)]) rfl (Nat.le_of_ble_eq_true rfl) ⟨Nat.zero_le _, Nat.zero_le _⟩ ?_
      refine jn_e (fun (k48 : Int → Option (Int × Int × Int × Int × Int × (Nat → Int) × (Nat → Int) × (Nat → Int) × (Nat → Int) × (Nat → Int) × (Nat → Int) × (Nat → Int) × (Nat → Int))) => ∀ (s1_48 : Int), wp (k48 s1_48) K → WW g 0 0 (w_X9_read (xG g) q (up (up (up (up F 0 this_points_37) 15 0) 27 this_place_1) 28 this_clauses_1) this_far_37 this_number_37 this_becomes_37 c_this_text this_kept_37 this_clause_1 this_told_1 this_toldBy_1 this_toldNumber_1) 48 [(0, .ref (q 35)), (3, .int (jz v3_26))] [.int (jz s1_48), .int (jz v2_26)]) h (fun s1_48 h => ?_) (fun k48 hk48 h => ?_)
      · refine r_iadd C (pc := 48) dX9_read_48 ?_
        refine r_let h (fun x49 h => ?_)
        refine r_istore_n C (pc := 49) dX9_read_49 rfl (by decide) (L' := [(0, .ref (q 35)), (2, .int (jz x49)), (3, .int (jz v3_26))]) rfl ?_
        refine r_iinc C (pc := 50) dX9_read_50 2 rfl (by decide) (L' := [(0, .ref (q 35)), (2, .int (jz x49)), (3, .int (jz (v3_26 + 1)))]) rfl ?_
        refine r_goto C (pc := 53) 26 dX9_read_53 rfl ?_
        exact hn26 x49 (v3_26 + 1) this_points_37 this_far_37 this_number_37 this_becomes_37 this_kept_37 h
      · refine r_if_eq C (pc := 40) 47 dX9_read_40 rfl h (fun c40 h => ?_) (fun c40 h => ?_)
        · refine r_iconst C (pc := 47) dX9_read_47 ?_
          refine r_sub [0, 2] rfl ?_
          exact hk48 0 h
        · refine r_iconst C (pc := 43) dX9_read_43 ?_
          refine r_goto C (pc := 44) 48 dX9_read_44 rfl ?_
          refine r_sub [0, 2] rfl ?_
          exact hk48 1 h
  · refine r_bipush C (pc := 14) dX9_read_14 rfl ?_
    refine r_aload_n C (pc := 16) dX9_read_16 rfl 0 rfl ?_
    refine r_get C (pc := 17) dX9_read_17 gf_X9_read_264 0 rfl rfl ?_
    refine r_isub C (pc := 20) dX9_read_20 ?_
    exact r_iret C (pc := 21) dX9_read_21 (hK ((-10) - this_place_1) (F 0) 0 this_place_1 this_clauses_1 c_this_far c_this_number c_this_becomes c_this_kept this_clause_1 this_told_1 this_toldBy_1 this_toldNumber_1 (wp_s h) rfl)
theorem c_X9_read (l : Launch) (G : gG) (q : Nat → Nat) (F : Nat → Int) (c_this_far : Nat → Int) (c_this_number : Nat → Int) (c_this_becomes : Nat → Int) (c_this_text : Nat → Int) (c_this_kept : Nat → Int) (c_this_clause : Nat → Int) (c_this_told : Nat → Int) (c_this_toldBy : Nat → Int) (c_this_toldNumber : Nat → Int) (r : Int) (o0 : Int) (o1 : Int) (o2 : Int) (o3 : Int) (o4 : Nat → Int) (o5 : Nat → Int) (o6 : Nat → Int) (o7 : Nat → Int) (o8 : Nat → Int) (o9 : Nat → Int) (o10 : Nat → Int) (o11 : Nat → Int) (hf : f_X9_read (F 0) (F 15) (F 27) (F 28) c_this_far c_this_number c_this_becomes c_this_text c_this_kept c_this_clause c_this_told c_this_toldBy c_this_toldNumber = some (r, o0, o1, o2, o3, o4, o5, o6, o7, o8, o9, o10, o11)) : CTi l yX9_read wsX9_read rm_X9_read G (w_X9_read G q F c_this_far c_this_number c_this_becomes c_this_text c_this_kept c_this_clause c_this_told c_this_toldBy c_this_toldNumber) [.ref (q 35)] (jz r) (w_X9_read G q (up (up (up (up F 0 o0) 15 o1) 27 o2) 28 o3) o4 o5 o6 c_this_text o7 o8 o9 o10 o11) := CTi_of (by decide) rfl rfl (Nat.le_of_ble_eq_true rfl) (fun g C hG hl hF => by
    subst hG
    subst hl
    exact k_X9_read C q F c_this_far c_this_number c_this_becomes c_this_text c_this_kept c_this_clause c_this_told c_this_toldBy c_this_toldNumber (fun x => x = (r, o0, o1, o2, o3, o4, o5, o6, o7, o8, o9, o10, o11)) (fun r' o0' o1' o2' o3' o4' o5' o6' o7' o8' o9' o10' o11' e => by cases e; exact hF) ⟨_, hf, rfl⟩)

-- TightHullsModel.isTape(I)Z
def f_X9_isTape (p1 : Int) : Option Int := bd1 (f_X9_in p1 0 5) (fun r3 => grd (isB r3) (some r3))
abbrev rm_X9_isTape : Room := { frames := 1, cells := 0, slots := 0, locals := 22 }
abbrev w_X9_isTape (G : gG)  : va_W := []
theorem hd_X9_isTape : yX9_isTape.cls ≠ "java/lang/invoke/MethodHandle" ∧ yX9_isTape.cls ≠ "java/lang/invoke/VarHandle" ∧ (parseMethodDescriptor yX9_isTape.desc).map (fun d => d.parameters.length) = some 1 := by decide +kernel
set_option maxRecDepth 100000 in
set_option maxHeartbeats 4000000 in
theorem k_X9_isTape {g : XC} (C : XOk g cX9_isTape RX9 wsX9_isTape rm_X9_isTape 1)  (p1 : Int) (K : Int → Prop) (hK : ∀ (r : Int), K r → (narrow .boolean (.int (jz r)) = .int (jz r) → FinI g 0 0 (w_X9_isTape (xG g)) (jz r))) (h : wp (f_X9_isTape p1) K) : WW g 0 0 (w_X9_isTape (xG g)) 0 [(0, .int (jz p1))] [] := by
  unfold f_X9_isTape at h
  refine r_iload_n C (pc := 0) dX9_isTape_0 rfl 0 rfl ?_
  refine r_iconst C (pc := 1) dX9_isTape_1 ?_
  refine r_iconst C (pc := 2) dX9_isTape_2 ?_
  obtain ⟨r3, e3, h⟩ := wp_b1 h
  refine b_cSi C (pc := 3) dX9_isTape_3 (c_X9_in (xl g) (xG g) p1 0 5 r3 e3) rfl gX9_isTape_X9_in ⟨rfl, rfl⟩ 3 hd_X9_in ⟨Nat.le_of_ble_eq_true rfl, Nat.le_of_ble_eq_true rfl⟩ rfl [] rfl (srt_nd 0 rfl) (ws' := w_X9_isTape (xG g)) (Put.m rfl rfl rfl) rfl (rest := []) rfl (Nat.le_of_ble_eq_true rfl) ⟨Nat.zero_le _, Nat.zero_le _⟩ ?_
  exact r_iret C (pc := 6) dX9_isTape_6 (hK r3 (wp_s (wp_g h).2) (nB (wp_g h).1).1)
theorem c_X9_isTape (l : Launch) (G : gG) (p1 : Int) (r : Int) (hf : f_X9_isTape p1 = some r) : CTi l yX9_isTape wsX9_isTape rm_X9_isTape G (w_X9_isTape G) [.int (jz p1)] (jz r) (w_X9_isTape G) := CTi_of (by decide) rfl rfl (Nat.le_of_ble_eq_true rfl) (fun g C hG hl hF => by
    subst hG
    subst hl
    exact k_X9_isTape C p1 (fun x => x = r) (fun r' e => by cases e; exact hF) ⟨_, hf, rfl⟩)

-- TightHullsModel.judge(II)I
def f_X9_judge (p1 : Int) (p2 : Int) (m_points : Int) (c_this_far : Nat → Int) (c_this_sort : Nat → Int) (c_this_size : Nat → Int) (c_this_cell : Nat → Int64) : Option Int := bd1 (f_X9_isTape p1) (fun r1 => if eqI r1 0 = true then (some (-1)) else (grd (iin p1 6) (jn (lq2 (fun (n36 : Int → Int → Option Int) (v3_36 : Int) (v4_36 : Int) => if ltI v4_36 m_points = true then (lv ((v4_36 + 1)) (fun x49 => lq2 (fun (n51 : Int → Int → Option Int) (v3_51 : Int) (v5_51 : Int) => if ltI v5_51 m_points = true then (grd (iin p1 6) (jn (some (100 + v3_51)) (fun (k85 : Option Int) => if ltI (c_this_sort (ix p1)) 0 = true then k85 else (if ltI p2 0 = true then k85 else (grd (iin p1 6) (if ltI p2 ((c_this_size (ix p1)) - v3_51) = true then (grd (iin (((60 * p1) + p2) + v3_51) 360) (bd1 (f_X9_d v4_36 v5_51 c_this_far) (fun r108 => if eqI (lcmI (c_this_cell (ix (((60 * p1) + p2) + v3_51))) (i2lI r108)) 0 = true then (n51 (v3_51 + 1) (v5_51 + 1)) else (some ((10 * v4_36) + v5_51))))) else k85)))))) else (n36 v3_51 (v4_36 + 1))) 300 v3_36 x49)) else (some (-5))) 300 0 0) (fun (k31 : Option Int) => if ltI (c_this_sort (ix p1)) 0 = true then k31 else (grd (iin p1 6) (if eqI (c_this_sort (ix p1)) 2 = true then k31 else (some (-12))))))))
abbrev rm_X9_judge : Room := { frames := 2, cells := 0, slots := 0, locals := 42 }
abbrev w_X9_judge (G : gG) (q : Nat → Nat) (F : Nat → Int) (c_this_far : Nat → Int) (c_this_sort : Nat → Int) (c_this_size : Nat → Int) (c_this_cell : Nat → Int64) : va_W := [((q 35), oX9 F q), ((q 1), aI G 25 c_this_far), ((q 16), aI G 6 c_this_sort), ((q 17), aI G 6 c_this_size), ((q 18), aJ G 360 c_this_cell)]
theorem hd_X9_judge : yX9_judge.cls = RX9 ∧ yX9_judge.cls ≠ "java/lang/invoke/MethodHandle" ∧ yX9_judge.cls ≠ "java/lang/invoke/VarHandle" ∧ (parseMethodDescriptor yX9_judge.desc).map (fun d => d.parameters.length) = some 2 := by decide +kernel
theorem in_X9_judge_X9 : ∀ w ∈ u_ws RX9 TX9 35, w ∈ wsX9_judge := fun w h => List.mem_cons_of_mem _ (List.mem_append_right _ (h))
theorem gf_X9_judge_49 : GF wsX9_judge RX9 49 8 16 := ⟨RX9, TX9, 35, rfl, in_X9_judge_X9, by decide, List.mem_of_getElem? (i := 1) rfl⟩
theorem gf_X9_judge_9 : GF wsX9_judge RX9 9 8 0 := ⟨RX9, TX9, 35, rfl, in_X9_judge_X9, by decide, List.mem_of_getElem? (i := 2) rfl⟩
theorem gf_X9_judge_52 : GF wsX9_judge RX9 52 8 17 := ⟨RX9, TX9, 35, rfl, in_X9_judge_X9, by decide, List.mem_of_getElem? (i := 3) rfl⟩
theorem gf_X9_judge_55 : GF wsX9_judge RX9 55 8 18 := ⟨RX9, TX9, 35, rfl, in_X9_judge_X9, by decide, List.mem_of_getElem? (i := 4) rfl⟩
set_option maxRecDepth 100000 in
set_option maxHeartbeats 4000000 in
theorem k_X9_judge {g : XC} (C : XOk g cX9_judge RX9 wsX9_judge rm_X9_judge 6) (q : Nat → Nat) (F : Nat → Int) (c_this_far : Nat → Int) (c_this_sort : Nat → Int) (c_this_size : Nat → Int) (c_this_cell : Nat → Int64) (p1 : Int) (p2 : Int) (K : Int → Prop) (hK : ∀ (r : Int), K r → (narrow .int (.int (jz r)) = .int (jz r) → FinI g 0 0 (w_X9_judge (xG g) q F c_this_far c_this_sort c_this_size c_this_cell) (jz r))) (h : wp (f_X9_judge p1 p2 (F 0) c_this_far c_this_sort c_this_size c_this_cell) K) : WW g 0 0 (w_X9_judge (xG g) q F c_this_far c_this_sort c_this_size c_this_cell) 0 [(0, .ref (q 35)), (1, .int (jz p1)), (2, .int (jz p2))] [] := by
  unfold f_X9_judge at h
  refine r_iload_n C (pc := 0) dX9_judge_0 rfl 1 rfl ?_
  obtain ⟨r1, e1, h⟩ := wp_b1 h
  refine b_cSi C (pc := 1) dX9_judge_1 (c_X9_isTape (xl g) (xG g) p1 r1 e1) rfl gX9_judge_X9_isTape ⟨rfl, rfl⟩ 1 hd_X9_isTape ⟨Nat.le_of_ble_eq_true rfl, Nat.le_of_ble_eq_true rfl⟩ rfl [] rfl (srt_nd 0 rfl) (ws' := w_X9_judge (xG g) q F c_this_far c_this_sort c_this_size c_this_cell) (Put.m rfl rfl rfl) rfl (rest := []) rfl (Nat.le_of_ble_eq_true rfl) ⟨Nat.zero_le _, Nat.zero_le _⟩ ?_
  refine r_if_ne C (pc := 4) 9 dX9_judge_4 rfl h (fun c4 h => ?_) (fun c4 h => ?_)
  · refine r_aload_n C (pc := 9) dX9_judge_9 rfl 0 rfl ?_
    refine r_get C (pc := 10) dX9_judge_10 gf_X9_judge_49 0 rfl rfl ?_
    refine r_iload_n C (pc := 13) dX9_judge_13 rfl 1 rfl ?_
    refine r_iald C (pc := 14) dX9_judge_14 h 2 rfl (fun h => ?_)
    refine jn_e (fun (k31 : Option Int) => wp (k31) K → WW g 0 0 (w_X9_judge (xG g) q F c_this_far c_this_sort c_this_size c_this_cell) 31 [(0, .ref (q 35)), (1, .int (jz p1)), (2, .int (jz p2))] []) h (fun h => ?_) (fun k31 hk31 h => ?_)
    · refine r_iconst C (pc := 31) dX9_judge_31 ?_
      refine r_istore_n C (pc := 32) dX9_judge_32 rfl (by decide) (L' := [(0, .ref (q 35)), (1, .int (jz p1)), (2, .int (jz p2)), (3, .int (jz 0))]) rfl ?_
      refine r_iconst C (pc := 33) dX9_judge_33 ?_
      refine r_istore C (pc := 34) dX9_judge_34 (by decide) (L' := [(0, .ref (q 35)), (1, .int (jz p1)), (2, .int (jz p2)), (3, .int (jz 0)), (4, .int (jz 0))]) rfl ?_
      refine lq2_e (fun (v3_36 : Int) (v4_36 : Int) => WW g 0 0 (w_X9_judge (xG g) q F c_this_far c_this_sort c_this_size c_this_cell) 36 [(0, .ref (q 35)), (1, .int (jz p1)), (2, .int (jz p2)), (3, .int (jz v3_36)), (4, .int (jz v4_36))] []) h (fun n36 hn36 v3_36 v4_36 h => ?_)
      refine r_iload C (pc := 36) dX9_judge_36 4 rfl ?_
      refine r_aload_n C (pc := 38) dX9_judge_38 rfl 0 rfl ?_
      refine r_get C (pc := 39) dX9_judge_39 gf_X9_judge_9 0 rfl rfl ?_
      refine r_icmp_ge C (pc := 42) 140 dX9_judge_42 rfl h (fun c42 h => ?_) (fun c42 h => ?_)
      · refine r_bipush C (pc := 140) dX9_judge_140 rfl ?_
        exact r_iret C (pc := 142) dX9_judge_142 (hK (-5) (wp_s h) rfl)
      · refine r_iload C (pc := 45) dX9_judge_45 4 rfl ?_
        refine r_iconst C (pc := 47) dX9_judge_47 ?_
        refine r_iadd C (pc := 48) dX9_judge_48 ?_
        refine r_let h (fun x49 h => ?_)
        refine r_istore C (pc := 49) dX9_judge_49 (by decide) (L' := [(0, .ref (q 35)), (1, .int (jz p1)), (2, .int (jz p2)), (3, .int (jz v3_36)), (4, .int (jz v4_36)), (5, .int (jz x49))]) rfl ?_
        refine lq2_e (fun (v3_51 : Int) (v5_51 : Int) => WW g 0 0 (w_X9_judge (xG g) q F c_this_far c_this_sort c_this_size c_this_cell) 51 [(0, .ref (q 35)), (1, .int (jz p1)), (2, .int (jz p2)), (3, .int (jz v3_51)), (4, .int (jz v4_36)), (5, .int (jz v5_51))] []) h (fun n51 hn51 v3_51 v5_51 h => ?_)
        refine r_iload C (pc := 51) dX9_judge_51 5 rfl ?_
        refine r_aload_n C (pc := 53) dX9_judge_53 rfl 0 rfl ?_
        refine r_get C (pc := 54) dX9_judge_54 gf_X9_judge_9 0 rfl rfl ?_
        refine r_icmp_ge C (pc := 57) 134 dX9_judge_57 rfl h (fun c57 h => ?_) (fun c57 h => ?_)
        · refine r_iinc C (pc := 134) dX9_judge_134 4 rfl (by decide) (L' := [(0, .ref (q 35)), (1, .int (jz p1)), (2, .int (jz p2)), (3, .int (jz v3_51)), (4, .int (jz (v4_36 + 1))), (5, .int (jz v5_51))]) rfl ?_
          refine r_goto C (pc := 137) 36 dX9_judge_137 rfl ?_
          refine r_sub [0, 1, 2, 3, 4] rfl ?_
          exact hn36 v3_51 (v4_36 + 1) h
        · refine r_aload_n C (pc := 60) dX9_judge_60 rfl 0 rfl ?_
          refine r_get C (pc := 61) dX9_judge_61 gf_X9_judge_49 0 rfl rfl ?_
          refine r_iload_n C (pc := 64) dX9_judge_64 rfl 1 rfl ?_
          refine r_iald C (pc := 65) dX9_judge_65 h 2 rfl (fun h => ?_)
          refine jn_e (fun (k85 : Option Int) => wp (k85) K → WW g 0 0 (w_X9_judge (xG g) q F c_this_far c_this_sort c_this_size c_this_cell) 85 [(3, .int (jz v3_51))] []) h (fun h => ?_) (fun k85 hk85 h => ?_)
          · refine r_bipush C (pc := 85) dX9_judge_85 rfl ?_
            refine r_iload_n C (pc := 87) dX9_judge_87 rfl 0 rfl ?_
            refine r_iadd C (pc := 88) dX9_judge_88 ?_
            exact r_iret C (pc := 89) dX9_judge_89 (hK (100 + v3_51) (wp_s h) rfl)
          · refine r_if_lt C (pc := 66) 85 dX9_judge_66 rfl h (fun c66 h => ?_) (fun c66 h => ?_)
            · refine r_sub [3] rfl ?_
              exact hk85 h
            · refine r_iload_n C (pc := 69) dX9_judge_69 rfl 2 rfl ?_
              refine r_if_lt C (pc := 70) 85 dX9_judge_70 rfl h (fun c70 h => ?_) (fun c70 h => ?_)
              · refine r_sub [3] rfl ?_
                exact hk85 h
              · refine r_iload_n C (pc := 73) dX9_judge_73 rfl 2 rfl ?_
                refine r_aload_n C (pc := 74) dX9_judge_74 rfl 0 rfl ?_
                refine r_get C (pc := 75) dX9_judge_75 gf_X9_judge_52 0 rfl rfl ?_
                refine r_iload_n C (pc := 78) dX9_judge_78 rfl 1 rfl ?_
                refine r_iald C (pc := 79) dX9_judge_79 h 3 rfl (fun h => ?_)
                refine r_iload_n C (pc := 80) dX9_judge_80 rfl 3 rfl ?_
                refine r_isub C (pc := 81) dX9_judge_81 ?_
                refine r_icmp_lt C (pc := 82) 90 dX9_judge_82 rfl h (fun c82 h => ?_) (fun c82 h => ?_)
                · refine r_aload_n C (pc := 90) dX9_judge_90 rfl 0 rfl ?_
                  refine r_get C (pc := 91) dX9_judge_91 gf_X9_judge_55 0 rfl rfl ?_
                  refine r_bipush C (pc := 94) dX9_judge_94 rfl ?_
                  refine r_iload_n C (pc := 96) dX9_judge_96 rfl 1 rfl ?_
                  refine r_imul C (pc := 97) dX9_judge_97 ?_
                  refine r_iload_n C (pc := 98) dX9_judge_98 rfl 2 rfl ?_
                  refine r_iadd C (pc := 99) dX9_judge_99 ?_
                  refine r_iload_n C (pc := 100) dX9_judge_100 rfl 3 rfl ?_
                  refine r_iadd C (pc := 101) dX9_judge_101 ?_
                  refine r_lald C (pc := 102) dX9_judge_102 h 4 rfl (fun h => ?_)
                  refine r_aload_n C (pc := 103) dX9_judge_103 rfl 0 rfl ?_
                  refine r_iload C (pc := 104) dX9_judge_104 4 rfl ?_
                  refine r_iload C (pc := 106) dX9_judge_106 5 rfl ?_
                  obtain ⟨r108, e108, h⟩ := wp_b1 h
                  refine b_cVi C (pc := 108) dX9_judge_108 (c_X9_d (xl g) (xG g) q F c_this_far v4_36 v5_51 r108 e108) rfl gX9_judge_X9_d ⟨rfl, rfl⟩ 2 hd_X9_d ⟨Nat.le_of_ble_eq_true rfl, Nat.le_of_ble_eq_true rfl⟩ rfl 0 rfl rfl rfl [0, 1] rfl (srt_nd 0 rfl) (ws' := w_X9_judge (xG g) q F c_this_far c_this_sort c_this_size c_this_cell) (Put.m rfl rfl rfl) rfl (rest := [.long (c_this_cell (ix (((60 * p1) + p2) + v3_51)))]) rfl (Nat.le_of_ble_eq_true rfl) ⟨Nat.zero_le _, Nat.zero_le _⟩ ?_
                  refine r_i2l C (pc := 111) dX9_judge_111 ?_
                  refine r_lcmp C (pc := 112) dX9_judge_112 ?_
                  refine r_if_eq C (pc := 113) 125 dX9_judge_113 rfl h (fun c113 h => ?_) (fun c113 h => ?_)
                  · refine r_iinc C (pc := 125) dX9_judge_125 3 rfl (by decide) (L' := [(0, .ref (q 35)), (1, .int (jz p1)), (2, .int (jz p2)), (3, .int (jz (v3_51 + 1))), (4, .int (jz v4_36)), (5, .int (jz v5_51))]) rfl ?_
                    refine r_iinc C (pc := 128) dX9_judge_128 5 rfl (by decide) (L' := [(0, .ref (q 35)), (1, .int (jz p1)), (2, .int (jz p2)), (3, .int (jz (v3_51 + 1))), (4, .int (jz v4_36)), (5, .int (jz (v5_51 + 1)))]) rfl ?_
                    refine r_goto C (pc := 131) 51 dX9_judge_131 rfl ?_
                    exact hn51 (v3_51 + 1) (v5_51 + 1) h
                  · refine r_bipush C (pc := 116) dX9_judge_116 rfl ?_
                    refine r_iload C (pc := 118) dX9_judge_118 4 rfl ?_
                    refine r_imul C (pc := 120) dX9_judge_120 ?_
                    refine r_iload C (pc := 121) dX9_judge_121 5 rfl ?_
                    refine r_iadd C (pc := 123) dX9_judge_123 ?_
                    exact r_iret C (pc := 124) dX9_judge_124 (hK ((10 * v4_36) + v5_51) (wp_s h) rfl)
                · refine r_sub [3] rfl ?_
                  exact hk85 h
    · refine r_if_lt C (pc := 15) 31 dX9_judge_15 rfl h (fun c15 h => ?_) (fun c15 h => ?_)
      · exact hk31 h
      · refine r_aload_n C (pc := 18) dX9_judge_18 rfl 0 rfl ?_
        refine r_get C (pc := 19) dX9_judge_19 gf_X9_judge_49 0 rfl rfl ?_
        refine r_iload_n C (pc := 22) dX9_judge_22 rfl 1 rfl ?_
        refine r_iald C (pc := 23) dX9_judge_23 h 2 rfl (fun h => ?_)
        refine r_iconst C (pc := 24) dX9_judge_24 ?_
        refine r_icmp_eq C (pc := 25) 31 dX9_judge_25 rfl h (fun c25 h => ?_) (fun c25 h => ?_)
        · exact hk31 h
        · refine r_bipush C (pc := 28) dX9_judge_28 rfl ?_
          exact r_iret C (pc := 30) dX9_judge_30 (hK (-12) (wp_s h) rfl)
  · refine r_iconst C (pc := 7) dX9_judge_7 ?_
    exact r_iret C (pc := 8) dX9_judge_8 (hK (-1) (wp_s h) rfl)
theorem c_X9_judge (l : Launch) (G : gG) (q : Nat → Nat) (F : Nat → Int) (c_this_far : Nat → Int) (c_this_sort : Nat → Int) (c_this_size : Nat → Int) (c_this_cell : Nat → Int64) (p1 : Int) (p2 : Int) (r : Int) (hf : f_X9_judge p1 p2 (F 0) c_this_far c_this_sort c_this_size c_this_cell = some r) : CTi l yX9_judge wsX9_judge rm_X9_judge G (w_X9_judge G q F c_this_far c_this_sort c_this_size c_this_cell) [.ref (q 35), .int (jz p1), .int (jz p2)] (jz r) (w_X9_judge G q F c_this_far c_this_sort c_this_size c_this_cell) := CTi_of (by decide) rfl rfl (Nat.le_of_ble_eq_true rfl) (fun g C hG hl hF => by
    subst hG
    subst hl
    exact k_X9_judge C q F c_this_far c_this_sort c_this_size c_this_cell p1 p2 (fun x => x = r) (fun r' e => by cases e; exact hF) ⟨_, hf, rfl⟩)

-- TightHullsModel.image()I
def f_X9_image (m_points : Int) (m_seen : Int) (m_events : Int) (m_books : Int) (m_hasImage : Int) (c_this_far : Nat → Int) (c_this_number : Nat → Int) (c_this_becomes : Nat → Int) (c_this_seenSplit : Nat → Int) (c_this_seenWeight : Nat → Int) (c_this_eventWhat : Nat → Int) (c_this_eventBy : Nat → Int) (c_this_bookOne : Nat → Int) (c_this_bookOther : Nat → Int) (c_this_bookFar : Nat → Int) (c_this_imaged : Nat → Int) : Option (Int × Int × (Nat → Int)) := grd (isB 1) (lq2 (fun (n7 : Int → (Nat → Int) → Option (Int × Int × (Nat → Int))) (v1_7 : Int) (this_imaged_7 : Nat → Int) => if ltI v1_7 25 = true then (grd (iin v1_7 25) (lv ((c_this_far (ix v1_7))) (fun x24 => grd (iin v1_7 88) (n7 (v1_7 + 1) (up this_imaged_7 (ix v1_7) x24))))) else (lq2 (fun (n33 : Int → (Nat → Int) → Option (Int × Int × (Nat → Int))) (v1_33 : Int) (this_imaged_33 : Nat → Int) => if ltI v1_33 5 = true then (grd (iin v1_33 5) (lv ((c_this_number (ix v1_33))) (fun x52 => grd (iin (25 + v1_33) 88) (grd (iin v1_33 5) (lv ((c_this_becomes (ix v1_33))) (fun x67 => grd (iin (30 + v1_33) 88) (n33 (v1_33 + 1) (up (up this_imaged_33 (ix (25 + v1_33)) x52) (ix (30 + v1_33)) x67)))))))) else (lq2 (fun (n76 : Int → (Nat → Int) → Option (Int × Int × (Nat → Int))) (v1_76 : Int) (this_imaged_76 : Nat → Int) => if ltI v1_76 4 = true then (grd (iin v1_76 4) (lv ((c_this_seenSplit (ix v1_76))) (fun x95 => grd (iin (35 + v1_76) 88) (grd (iin v1_76 4) (lv ((c_this_seenWeight (ix v1_76))) (fun x110 => grd (iin (39 + v1_76) 88) (n76 (v1_76 + 1) (up (up this_imaged_76 (ix (35 + v1_76)) x95) (ix (39 + v1_76)) x110)))))))) else (lq2 (fun (n119 : Int → (Nat → Int) → Option (Int × Int × (Nat → Int))) (v1_119 : Int) (this_imaged_119 : Nat → Int) => if ltI v1_119 8 = true then (grd (iin v1_119 8) (lv ((c_this_eventWhat (ix v1_119))) (fun x139 => grd (iin (43 + v1_119) 88) (grd (iin v1_119 8) (lv ((c_this_eventBy (ix v1_119))) (fun x154 => grd (iin (51 + v1_119) 88) (grd (iin v1_119 8) (lv ((c_this_bookOne (ix v1_119))) (fun x169 => grd (iin (59 + v1_119) 88) (grd (iin v1_119 8) (lv ((c_this_bookOther (ix v1_119))) (fun x184 => grd (iin (67 + v1_119) 88) (grd (iin v1_119 8) (lv ((c_this_bookFar (ix v1_119))) (fun x199 => grd (iin (75 + v1_119) 88) (n119 (v1_119 + 1) (up (up (up (up (up this_imaged_119 (ix (43 + v1_119)) x139) (ix (51 + v1_119)) x154) (ix (59 + v1_119)) x169) (ix (67 + v1_119)) x184) (ix (75 + v1_119)) x199))))))))))))))))) else (grd (iin 83 88) (grd (iin 84 88) (grd (iin 85 88) (grd (iin 86 88) (bd1 (f_X9_girth m_points c_this_far) (fun r251 => some (r251, 1, (up (up (up (up this_imaged_119 (ix 83) m_points) (ix 84) m_seen) (ix 85) m_events) (ix 86) m_books))))))))) 300 0 this_imaged_76)) 300 0 this_imaged_33)) 300 0 this_imaged_7)) 300 0 c_this_imaged)
abbrev rm_X9_image : Room := { frames := 2, cells := 0, slots := 0, locals := 45 }
abbrev w_X9_image (G : gG) (q : Nat → Nat) (F : Nat → Int) (c_this_far : Nat → Int) (c_this_number : Nat → Int) (c_this_becomes : Nat → Int) (c_this_seenSplit : Nat → Int) (c_this_seenWeight : Nat → Int) (c_this_eventWhat : Nat → Int) (c_this_eventBy : Nat → Int) (c_this_bookOne : Nat → Int) (c_this_bookOther : Nat → Int) (c_this_bookFar : Nat → Int) (c_this_imaged : Nat → Int) : va_W := [((q 35), oX9 F q), ((q 1), aI G 25 c_this_far), ((q 2), aI G 5 c_this_number), ((q 3), aI G 5 c_this_becomes), ((q 5), aI G 4 c_this_seenSplit), ((q 6), aI G 4 c_this_seenWeight), ((q 8), aI G 8 c_this_eventWhat), ((q 9), aI G 8 c_this_eventBy), ((q 11), aI G 8 c_this_bookOne), ((q 12), aI G 8 c_this_bookOther), ((q 13), aI G 8 c_this_bookFar), ((q 34), aI G 88 c_this_imaged)]
theorem hd_X9_image : yX9_image.cls = RX9 ∧ yX9_image.cls ≠ "java/lang/invoke/MethodHandle" ∧ yX9_image.cls ≠ "java/lang/invoke/VarHandle" ∧ (parseMethodDescriptor yX9_image.desc).map (fun d => d.parameters.length) = some 0 := by decide +kernel
theorem in_X9_image_X9 : ∀ w ∈ u_ws RX9 TX9 35, w ∈ wsX9_image := fun w h => List.mem_cons_of_mem _ (List.mem_append_right _ (h))
theorem pf_X9_image_303 : PF wsX9_image RX9 303 8 33 .boolean false := ⟨RX9, TX9, 35, tyX9, rfl, in_X9_image_X9, tyX9_ok, nmX9, by decide, List.mem_of_getElem? (i := 1) rfl, rfl, rfl, rfl⟩
theorem gf_X9_image_92 : GF wsX9_image RX9 92 8 34 := ⟨RX9, TX9, 35, rfl, in_X9_image_X9, by decide, List.mem_of_getElem? (i := 2) rfl⟩
theorem gf_X9_image_9 : GF wsX9_image RX9 9 8 0 := ⟨RX9, TX9, 35, rfl, in_X9_image_X9, by decide, List.mem_of_getElem? (i := 13) rfl⟩
theorem gf_X9_image_239 : GF wsX9_image RX9 239 8 4 := ⟨RX9, TX9, 35, rfl, in_X9_image_X9, by decide, List.mem_of_getElem? (i := 14) rfl⟩
theorem gf_X9_image_251 : GF wsX9_image RX9 251 8 7 := ⟨RX9, TX9, 35, rfl, in_X9_image_X9, by decide, List.mem_of_getElem? (i := 15) rfl⟩
theorem gf_X9_image_258 : GF wsX9_image RX9 258 8 10 := ⟨RX9, TX9, 35, rfl, in_X9_image_X9, by decide, List.mem_of_getElem? (i := 16) rfl⟩
theorem gf_X9_image_31 : GF wsX9_image RX9 31 8 8 := ⟨RX9, TX9, 35, rfl, in_X9_image_X9, by decide, List.mem_of_getElem? (i := 8) rfl⟩
theorem gf_X9_image_34 : GF wsX9_image RX9 34 8 9 := ⟨RX9, TX9, 35, rfl, in_X9_image_X9, by decide, List.mem_of_getElem? (i := 9) rfl⟩
theorem gf_X9_image_37 : GF wsX9_image RX9 37 8 11 := ⟨RX9, TX9, 35, rfl, in_X9_image_X9, by decide, List.mem_of_getElem? (i := 10) rfl⟩
theorem gf_X9_image_40 : GF wsX9_image RX9 40 8 12 := ⟨RX9, TX9, 35, rfl, in_X9_image_X9, by decide, List.mem_of_getElem? (i := 11) rfl⟩
theorem gf_X9_image_43 : GF wsX9_image RX9 43 8 13 := ⟨RX9, TX9, 35, rfl, in_X9_image_X9, by decide, List.mem_of_getElem? (i := 12) rfl⟩
theorem gf_X9_image_25 : GF wsX9_image RX9 25 8 5 := ⟨RX9, TX9, 35, rfl, in_X9_image_X9, by decide, List.mem_of_getElem? (i := 6) rfl⟩
theorem gf_X9_image_28 : GF wsX9_image RX9 28 8 6 := ⟨RX9, TX9, 35, rfl, in_X9_image_X9, by decide, List.mem_of_getElem? (i := 7) rfl⟩
theorem gf_X9_image_19 : GF wsX9_image RX9 19 8 2 := ⟨RX9, TX9, 35, rfl, in_X9_image_X9, by decide, List.mem_of_getElem? (i := 4) rfl⟩
theorem gf_X9_image_22 : GF wsX9_image RX9 22 8 3 := ⟨RX9, TX9, 35, rfl, in_X9_image_X9, by decide, List.mem_of_getElem? (i := 5) rfl⟩
theorem gf_X9_image_15 : GF wsX9_image RX9 15 8 1 := ⟨RX9, TX9, 35, rfl, in_X9_image_X9, by decide, List.mem_of_getElem? (i := 3) rfl⟩
set_option maxRecDepth 100000 in
set_option maxHeartbeats 4000000 in
theorem k_X9_image {g : XC} (C : XOk g cX9_image RX9 wsX9_image rm_X9_image 2) (q : Nat → Nat) (F : Nat → Int) (c_this_far : Nat → Int) (c_this_number : Nat → Int) (c_this_becomes : Nat → Int) (c_this_seenSplit : Nat → Int) (c_this_seenWeight : Nat → Int) (c_this_eventWhat : Nat → Int) (c_this_eventBy : Nat → Int) (c_this_bookOne : Nat → Int) (c_this_bookOther : Nat → Int) (c_this_bookFar : Nat → Int) (c_this_imaged : Nat → Int)  (K : (Int × Int × (Nat → Int)) → Prop) (hK : ∀ (r : Int) (o0 : Int) (o1 : Nat → Int), K (r, o0, o1) → (narrow .int (.int (jz r)) = .int (jz r) → FinI g 0 0 (w_X9_image (xG g) q (up F 33 o0) c_this_far c_this_number c_this_becomes c_this_seenSplit c_this_seenWeight c_this_eventWhat c_this_eventBy c_this_bookOne c_this_bookOther c_this_bookFar o1) (jz r))) (h : wp (f_X9_image (F 0) (F 4) (F 7) (F 10) (F 33) c_this_far c_this_number c_this_becomes c_this_seenSplit c_this_seenWeight c_this_eventWhat c_this_eventBy c_this_bookOne c_this_bookOther c_this_bookFar c_this_imaged) K) : WW g 0 0 (w_X9_image (xG g) q F c_this_far c_this_number c_this_becomes c_this_seenSplit c_this_seenWeight c_this_eventWhat c_this_eventBy c_this_bookOne c_this_bookOther c_this_bookFar c_this_imaged) 0 [(0, .ref (q 35))] [] := by
  unfold f_X9_image at h
  refine r_aload_n C (pc := 0) dX9_image_0 rfl 0 rfl ?_
  refine r_iconst C (pc := 1) dX9_image_1 ?_
  refine r_putz C (pc := 2) dX9_image_2 pf_X9_image_303 h 0 rfl (Nat.le_of_ble_eq_true rfl) (ws' := w_X9_image (xG g) q (up F 33 1) c_this_far c_this_number c_this_becomes c_this_seenSplit c_this_seenWeight c_this_eventWhat c_this_eventBy c_this_bookOne c_this_bookOther c_this_bookFar c_this_imaged) rfl (fun h => ?_)
  refine r_iconst C (pc := 5) dX9_image_5 ?_
  refine r_istore_n C (pc := 6) dX9_image_6 rfl (by decide) (L' := [(0, .ref (q 35)), (1, .int (jz 0))]) rfl ?_
  refine lq2_e (fun (v1_7 : Int) (this_imaged_7 : Nat → Int) => WW g 0 0 (w_X9_image (xG g) q (up F 33 1) c_this_far c_this_number c_this_becomes c_this_seenSplit c_this_seenWeight c_this_eventWhat c_this_eventBy c_this_bookOne c_this_bookOther c_this_bookFar this_imaged_7) 7 [(0, .ref (q 35)), (1, .int (jz v1_7))] []) h (fun n7 hn7 v1_7 this_imaged_7 h => ?_)
  refine r_iload_n C (pc := 7) dX9_image_7 rfl 1 rfl ?_
  refine r_bipush C (pc := 8) dX9_image_8 rfl ?_
  refine r_icmp_ge C (pc := 10) 31 dX9_image_10 rfl h (fun c10 h => ?_) (fun c10 h => ?_)
  · refine r_iconst C (pc := 31) dX9_image_31 ?_
    refine r_istore_n C (pc := 32) dX9_image_32 rfl (by decide) (L' := [(0, .ref (q 35)), (1, .int (jz 0))]) rfl ?_
    refine lq2_e (fun (v1_33 : Int) (this_imaged_33 : Nat → Int) => WW g 0 0 (w_X9_image (xG g) q (up F 33 1) c_this_far c_this_number c_this_becomes c_this_seenSplit c_this_seenWeight c_this_eventWhat c_this_eventBy c_this_bookOne c_this_bookOther c_this_bookFar this_imaged_33) 33 [(0, .ref (q 35)), (1, .int (jz v1_33))] []) h (fun n33 hn33 v1_33 this_imaged_33 h => ?_)
    refine r_iload_n C (pc := 33) dX9_image_33 rfl 1 rfl ?_
    refine r_iconst C (pc := 34) dX9_image_34 ?_
    refine r_icmp_ge C (pc := 35) 74 dX9_image_35 rfl h (fun c35 h => ?_) (fun c35 h => ?_)
    · refine r_iconst C (pc := 74) dX9_image_74 ?_
      refine r_istore_n C (pc := 75) dX9_image_75 rfl (by decide) (L' := [(0, .ref (q 35)), (1, .int (jz 0))]) rfl ?_
      refine lq2_e (fun (v1_76 : Int) (this_imaged_76 : Nat → Int) => WW g 0 0 (w_X9_image (xG g) q (up F 33 1) c_this_far c_this_number c_this_becomes c_this_seenSplit c_this_seenWeight c_this_eventWhat c_this_eventBy c_this_bookOne c_this_bookOther c_this_bookFar this_imaged_76) 76 [(0, .ref (q 35)), (1, .int (jz v1_76))] []) h (fun n76 hn76 v1_76 this_imaged_76 h => ?_)
      refine r_iload_n C (pc := 76) dX9_image_76 rfl 1 rfl ?_
      refine r_iconst C (pc := 77) dX9_image_77 ?_
      refine r_icmp_ge C (pc := 78) 117 dX9_image_78 rfl h (fun c78 h => ?_) (fun c78 h => ?_)
      · refine r_iconst C (pc := 117) dX9_image_117 ?_
        refine r_istore_n C (pc := 118) dX9_image_118 rfl (by decide) (L' := [(0, .ref (q 35)), (1, .int (jz 0))]) rfl ?_
        refine lq2_e (fun (v1_119 : Int) (this_imaged_119 : Nat → Int) => WW g 0 0 (w_X9_image (xG g) q (up F 33 1) c_this_far c_this_number c_this_becomes c_this_seenSplit c_this_seenWeight c_this_eventWhat c_this_eventBy c_this_bookOne c_this_bookOther c_this_bookFar this_imaged_119) 119 [(0, .ref (q 35)), (1, .int (jz v1_119))] []) h (fun n119 hn119 v1_119 this_imaged_119 h => ?_)
        refine r_iload_n C (pc := 119) dX9_image_119 rfl 1 rfl ?_
        refine r_bipush C (pc := 120) dX9_image_120 rfl ?_
        refine r_icmp_ge C (pc := 122) 206 dX9_image_122 rfl h (fun c122 h => ?_) (fun c122 h => ?_)
        · refine r_aload_n C (pc := 206) dX9_image_206 rfl 0 rfl ?_
          refine r_get C (pc := 207) dX9_image_207 gf_X9_image_92 0 rfl rfl ?_
          refine r_bipush C (pc := 210) dX9_image_210 rfl ?_
          refine r_aload_n C (pc := 212) dX9_image_212 rfl 0 rfl ?_
          refine r_get C (pc := 213) dX9_image_213 gf_X9_image_9 0 rfl rfl ?_
          refine r_iast C (pc := 216) dX9_image_216 h 11 rfl (ws' := w_X9_image (xG g) q (up F 33 1) c_this_far c_this_number c_this_becomes c_this_seenSplit c_this_seenWeight c_this_eventWhat c_this_eventBy c_this_bookOne c_this_bookOther c_this_bookFar (up this_imaged_119 (ix 83) (F 0))) rfl (fun h => ?_)
          refine r_aload_n C (pc := 217) dX9_image_217 rfl 0 rfl ?_
          refine r_get C (pc := 218) dX9_image_218 gf_X9_image_92 0 rfl rfl ?_
          refine r_bipush C (pc := 221) dX9_image_221 rfl ?_
          refine r_aload_n C (pc := 223) dX9_image_223 rfl 0 rfl ?_
          refine r_get C (pc := 224) dX9_image_224 gf_X9_image_239 0 rfl rfl ?_
          refine r_iast C (pc := 227) dX9_image_227 h 11 rfl (ws' := w_X9_image (xG g) q (up F 33 1) c_this_far c_this_number c_this_becomes c_this_seenSplit c_this_seenWeight c_this_eventWhat c_this_eventBy c_this_bookOne c_this_bookOther c_this_bookFar (up (up this_imaged_119 (ix 83) (F 0)) (ix 84) (F 4))) rfl (fun h => ?_)
          refine r_aload_n C (pc := 228) dX9_image_228 rfl 0 rfl ?_
          refine r_get C (pc := 229) dX9_image_229 gf_X9_image_92 0 rfl rfl ?_
          refine r_bipush C (pc := 232) dX9_image_232 rfl ?_
          refine r_aload_n C (pc := 234) dX9_image_234 rfl 0 rfl ?_
          refine r_get C (pc := 235) dX9_image_235 gf_X9_image_251 0 rfl rfl ?_
          refine r_iast C (pc := 238) dX9_image_238 h 11 rfl (ws' := w_X9_image (xG g) q (up F 33 1) c_this_far c_this_number c_this_becomes c_this_seenSplit c_this_seenWeight c_this_eventWhat c_this_eventBy c_this_bookOne c_this_bookOther c_this_bookFar (up (up (up this_imaged_119 (ix 83) (F 0)) (ix 84) (F 4)) (ix 85) (F 7))) rfl (fun h => ?_)
          refine r_aload_n C (pc := 239) dX9_image_239 rfl 0 rfl ?_
          refine r_get C (pc := 240) dX9_image_240 gf_X9_image_92 0 rfl rfl ?_
          refine r_bipush C (pc := 243) dX9_image_243 rfl ?_
          refine r_aload_n C (pc := 245) dX9_image_245 rfl 0 rfl ?_
          refine r_get C (pc := 246) dX9_image_246 gf_X9_image_258 0 rfl rfl ?_
          refine r_iast C (pc := 249) dX9_image_249 h 11 rfl (ws' := w_X9_image (xG g) q (up F 33 1) c_this_far c_this_number c_this_becomes c_this_seenSplit c_this_seenWeight c_this_eventWhat c_this_eventBy c_this_bookOne c_this_bookOther c_this_bookFar (up (up (up (up this_imaged_119 (ix 83) (F 0)) (ix 84) (F 4)) (ix 85) (F 7)) (ix 86) (F 10))) rfl (fun h => ?_)
          refine r_aload_n C (pc := 250) dX9_image_250 rfl 0 rfl ?_
          obtain ⟨r251, e251, h⟩ := wp_b1 h
          refine b_cVi C (pc := 251) dX9_image_251 (c_X9_girth (xl g) (xG g) q (up F 33 1) c_this_far r251 e251) rfl gX9_image_X9_girth ⟨rfl, rfl⟩ 0 hd_X9_girth ⟨Nat.le_of_ble_eq_true rfl, Nat.le_of_ble_eq_true rfl⟩ rfl 0 rfl rfl rfl [0, 1] rfl (srt_nd 0 rfl) (ws' := w_X9_image (xG g) q (up F 33 1) c_this_far c_this_number c_this_becomes c_this_seenSplit c_this_seenWeight c_this_eventWhat c_this_eventBy c_this_bookOne c_this_bookOther c_this_bookFar (up (up (up (up this_imaged_119 (ix 83) (F 0)) (ix 84) (F 4)) (ix 85) (F 7)) (ix 86) (F 10))) (Put.m rfl rfl rfl) rfl (rest := []) rfl (Nat.le_of_ble_eq_true rfl) ⟨Nat.zero_le _, Nat.zero_le _⟩ ?_
          exact r_iret C (pc := 254) dX9_image_254 (hK r251 1 (up (up (up (up this_imaged_119 (ix 83) (F 0)) (ix 84) (F 4)) (ix 85) (F 7)) (ix 86) (F 10)) (wp_s h) rfl)
        · refine r_aload_n C (pc := 125) dX9_image_125 rfl 0 rfl ?_
          refine r_get C (pc := 126) dX9_image_126 gf_X9_image_92 0 rfl rfl ?_
          refine r_bipush C (pc := 129) dX9_image_129 rfl ?_
          refine r_iload_n C (pc := 131) dX9_image_131 rfl 1 rfl ?_
          refine r_iadd C (pc := 132) dX9_image_132 ?_
          refine r_aload_n C (pc := 133) dX9_image_133 rfl 0 rfl ?_
          refine r_get C (pc := 134) dX9_image_134 gf_X9_image_31 0 rfl rfl ?_
          refine r_iload_n C (pc := 137) dX9_image_137 rfl 1 rfl ?_
          refine r_iald C (pc := 138) dX9_image_138 h 6 rfl (fun h => ?_)
          refine r_let h (fun x139 h => ?_)
          refine r_iast C (pc := 139) dX9_image_139 h 11 rfl (ws' := w_X9_image (xG g) q (up F 33 1) c_this_far c_this_number c_this_becomes c_this_seenSplit c_this_seenWeight c_this_eventWhat c_this_eventBy c_this_bookOne c_this_bookOther c_this_bookFar (up this_imaged_119 (ix (43 + v1_119)) x139)) rfl (fun h => ?_)
          refine r_aload_n C (pc := 140) dX9_image_140 rfl 0 rfl ?_
          refine r_get C (pc := 141) dX9_image_141 gf_X9_image_92 0 rfl rfl ?_
          refine r_bipush C (pc := 144) dX9_image_144 rfl ?_
          refine r_iload_n C (pc := 146) dX9_image_146 rfl 1 rfl ?_
          refine r_iadd C (pc := 147) dX9_image_147 ?_
          refine r_aload_n C (pc := 148) dX9_image_148 rfl 0 rfl ?_
          refine r_get C (pc := 149) dX9_image_149 gf_X9_image_34 0 rfl rfl ?_
          refine r_iload_n C (pc := 152) dX9_image_152 rfl 1 rfl ?_
          refine r_iald C (pc := 153) dX9_image_153 h 7 rfl (fun h => ?_)
          refine r_let h (fun x154 h => ?_)
          refine r_iast C (pc := 154) dX9_image_154 h 11 rfl (ws' := w_X9_image (xG g) q (up F 33 1) c_this_far c_this_number c_this_becomes c_this_seenSplit c_this_seenWeight c_this_eventWhat c_this_eventBy c_this_bookOne c_this_bookOther c_this_bookFar (up (up this_imaged_119 (ix (43 + v1_119)) x139) (ix (51 + v1_119)) x154)) rfl (fun h => ?_)
          refine r_aload_n C (pc := 155) dX9_image_155 rfl 0 rfl ?_
          refine r_get C (pc := 156) dX9_image_156 gf_X9_image_92 0 rfl rfl ?_
          refine r_bipush C (pc := 159) dX9_image_159 rfl ?_
          refine r_iload_n C (pc := 161) dX9_image_161 rfl 1 rfl ?_
          refine r_iadd C (pc := 162) dX9_image_162 ?_
          refine r_aload_n C (pc := 163) dX9_image_163 rfl 0 rfl ?_
          refine r_get C (pc := 164) dX9_image_164 gf_X9_image_37 0 rfl rfl ?_
          refine r_iload_n C (pc := 167) dX9_image_167 rfl 1 rfl ?_
          refine r_iald C (pc := 168) dX9_image_168 h 8 rfl (fun h => ?_)
          refine r_let h (fun x169 h => ?_)
          refine r_iast C (pc := 169) dX9_image_169 h 11 rfl (ws' := w_X9_image (xG g) q (up F 33 1) c_this_far c_this_number c_this_becomes c_this_seenSplit c_this_seenWeight c_this_eventWhat c_this_eventBy c_this_bookOne c_this_bookOther c_this_bookFar (up (up (up this_imaged_119 (ix (43 + v1_119)) x139) (ix (51 + v1_119)) x154) (ix (59 + v1_119)) x169)) rfl (fun h => ?_)
          refine r_aload_n C (pc := 170) dX9_image_170 rfl 0 rfl ?_
          refine r_get C (pc := 171) dX9_image_171 gf_X9_image_92 0 rfl rfl ?_
          refine r_bipush C (pc := 174) dX9_image_174 rfl ?_
          refine r_iload_n C (pc := 176) dX9_image_176 rfl 1 rfl ?_
          refine r_iadd C (pc := 177) dX9_image_177 ?_
          refine r_aload_n C (pc := 178) dX9_image_178 rfl 0 rfl ?_
          refine r_get C (pc := 179) dX9_image_179 gf_X9_image_40 0 rfl rfl ?_
          refine r_iload_n C (pc := 182) dX9_image_182 rfl 1 rfl ?_
          refine r_iald C (pc := 183) dX9_image_183 h 9 rfl (fun h => ?_)
          refine r_let h (fun x184 h => ?_)
          refine r_iast C (pc := 184) dX9_image_184 h 11 rfl (ws' := w_X9_image (xG g) q (up F 33 1) c_this_far c_this_number c_this_becomes c_this_seenSplit c_this_seenWeight c_this_eventWhat c_this_eventBy c_this_bookOne c_this_bookOther c_this_bookFar (up (up (up (up this_imaged_119 (ix (43 + v1_119)) x139) (ix (51 + v1_119)) x154) (ix (59 + v1_119)) x169) (ix (67 + v1_119)) x184)) rfl (fun h => ?_)
          refine r_aload_n C (pc := 185) dX9_image_185 rfl 0 rfl ?_
          refine r_get C (pc := 186) dX9_image_186 gf_X9_image_92 0 rfl rfl ?_
          refine r_bipush C (pc := 189) dX9_image_189 rfl ?_
          refine r_iload_n C (pc := 191) dX9_image_191 rfl 1 rfl ?_
          refine r_iadd C (pc := 192) dX9_image_192 ?_
          refine r_aload_n C (pc := 193) dX9_image_193 rfl 0 rfl ?_
          refine r_get C (pc := 194) dX9_image_194 gf_X9_image_43 0 rfl rfl ?_
          refine r_iload_n C (pc := 197) dX9_image_197 rfl 1 rfl ?_
          refine r_iald C (pc := 198) dX9_image_198 h 10 rfl (fun h => ?_)
          refine r_let h (fun x199 h => ?_)
          refine r_iast C (pc := 199) dX9_image_199 h 11 rfl (ws' := w_X9_image (xG g) q (up F 33 1) c_this_far c_this_number c_this_becomes c_this_seenSplit c_this_seenWeight c_this_eventWhat c_this_eventBy c_this_bookOne c_this_bookOther c_this_bookFar (up (up (up (up (up this_imaged_119 (ix (43 + v1_119)) x139) (ix (51 + v1_119)) x154) (ix (59 + v1_119)) x169) (ix (67 + v1_119)) x184) (ix (75 + v1_119)) x199)) rfl (fun h => ?_)
          refine r_iinc C (pc := 200) dX9_image_200 1 rfl (by decide) (L' := [(0, .ref (q 35)), (1, .int (jz (v1_119 + 1)))]) rfl ?_
          refine r_goto C (pc := 203) 119 dX9_image_203 rfl ?_
          exact hn119 (v1_119 + 1) (up (up (up (up (up this_imaged_119 (ix (43 + v1_119)) x139) (ix (51 + v1_119)) x154) (ix (59 + v1_119)) x169) (ix (67 + v1_119)) x184) (ix (75 + v1_119)) x199) h
      · refine r_aload_n C (pc := 81) dX9_image_81 rfl 0 rfl ?_
        refine r_get C (pc := 82) dX9_image_82 gf_X9_image_92 0 rfl rfl ?_
        refine r_bipush C (pc := 85) dX9_image_85 rfl ?_
        refine r_iload_n C (pc := 87) dX9_image_87 rfl 1 rfl ?_
        refine r_iadd C (pc := 88) dX9_image_88 ?_
        refine r_aload_n C (pc := 89) dX9_image_89 rfl 0 rfl ?_
        refine r_get C (pc := 90) dX9_image_90 gf_X9_image_25 0 rfl rfl ?_
        refine r_iload_n C (pc := 93) dX9_image_93 rfl 1 rfl ?_
        refine r_iald C (pc := 94) dX9_image_94 h 4 rfl (fun h => ?_)
        refine r_let h (fun x95 h => ?_)
        refine r_iast C (pc := 95) dX9_image_95 h 11 rfl (ws' := w_X9_image (xG g) q (up F 33 1) c_this_far c_this_number c_this_becomes c_this_seenSplit c_this_seenWeight c_this_eventWhat c_this_eventBy c_this_bookOne c_this_bookOther c_this_bookFar (up this_imaged_76 (ix (35 + v1_76)) x95)) rfl (fun h => ?_)
        refine r_aload_n C (pc := 96) dX9_image_96 rfl 0 rfl ?_
        refine r_get C (pc := 97) dX9_image_97 gf_X9_image_92 0 rfl rfl ?_
        refine r_bipush C (pc := 100) dX9_image_100 rfl ?_
        refine r_iload_n C (pc := 102) dX9_image_102 rfl 1 rfl ?_
        refine r_iadd C (pc := 103) dX9_image_103 ?_
        refine r_aload_n C (pc := 104) dX9_image_104 rfl 0 rfl ?_
        refine r_get C (pc := 105) dX9_image_105 gf_X9_image_28 0 rfl rfl ?_
        refine r_iload_n C (pc := 108) dX9_image_108 rfl 1 rfl ?_
        refine r_iald C (pc := 109) dX9_image_109 h 5 rfl (fun h => ?_)
        refine r_let h (fun x110 h => ?_)
        refine r_iast C (pc := 110) dX9_image_110 h 11 rfl (ws' := w_X9_image (xG g) q (up F 33 1) c_this_far c_this_number c_this_becomes c_this_seenSplit c_this_seenWeight c_this_eventWhat c_this_eventBy c_this_bookOne c_this_bookOther c_this_bookFar (up (up this_imaged_76 (ix (35 + v1_76)) x95) (ix (39 + v1_76)) x110)) rfl (fun h => ?_)
        refine r_iinc C (pc := 111) dX9_image_111 1 rfl (by decide) (L' := [(0, .ref (q 35)), (1, .int (jz (v1_76 + 1)))]) rfl ?_
        refine r_goto C (pc := 114) 76 dX9_image_114 rfl ?_
        exact hn76 (v1_76 + 1) (up (up this_imaged_76 (ix (35 + v1_76)) x95) (ix (39 + v1_76)) x110) h
    · refine r_aload_n C (pc := 38) dX9_image_38 rfl 0 rfl ?_
      refine r_get C (pc := 39) dX9_image_39 gf_X9_image_92 0 rfl rfl ?_
      refine r_bipush C (pc := 42) dX9_image_42 rfl ?_
      refine r_iload_n C (pc := 44) dX9_image_44 rfl 1 rfl ?_
      refine r_iadd C (pc := 45) dX9_image_45 ?_
      refine r_aload_n C (pc := 46) dX9_image_46 rfl 0 rfl ?_
      refine r_get C (pc := 47) dX9_image_47 gf_X9_image_19 0 rfl rfl ?_
      refine r_iload_n C (pc := 50) dX9_image_50 rfl 1 rfl ?_
      refine r_iald C (pc := 51) dX9_image_51 h 2 rfl (fun h => ?_)
      refine r_let h (fun x52 h => ?_)
      refine r_iast C (pc := 52) dX9_image_52 h 11 rfl (ws' := w_X9_image (xG g) q (up F 33 1) c_this_far c_this_number c_this_becomes c_this_seenSplit c_this_seenWeight c_this_eventWhat c_this_eventBy c_this_bookOne c_this_bookOther c_this_bookFar (up this_imaged_33 (ix (25 + v1_33)) x52)) rfl (fun h => ?_)
      refine r_aload_n C (pc := 53) dX9_image_53 rfl 0 rfl ?_
      refine r_get C (pc := 54) dX9_image_54 gf_X9_image_92 0 rfl rfl ?_
      refine r_bipush C (pc := 57) dX9_image_57 rfl ?_
      refine r_iload_n C (pc := 59) dX9_image_59 rfl 1 rfl ?_
      refine r_iadd C (pc := 60) dX9_image_60 ?_
      refine r_aload_n C (pc := 61) dX9_image_61 rfl 0 rfl ?_
      refine r_get C (pc := 62) dX9_image_62 gf_X9_image_22 0 rfl rfl ?_
      refine r_iload_n C (pc := 65) dX9_image_65 rfl 1 rfl ?_
      refine r_iald C (pc := 66) dX9_image_66 h 3 rfl (fun h => ?_)
      refine r_let h (fun x67 h => ?_)
      refine r_iast C (pc := 67) dX9_image_67 h 11 rfl (ws' := w_X9_image (xG g) q (up F 33 1) c_this_far c_this_number c_this_becomes c_this_seenSplit c_this_seenWeight c_this_eventWhat c_this_eventBy c_this_bookOne c_this_bookOther c_this_bookFar (up (up this_imaged_33 (ix (25 + v1_33)) x52) (ix (30 + v1_33)) x67)) rfl (fun h => ?_)
      refine r_iinc C (pc := 68) dX9_image_68 1 rfl (by decide) (L' := [(0, .ref (q 35)), (1, .int (jz (v1_33 + 1)))]) rfl ?_
      refine r_goto C (pc := 71) 33 dX9_image_71 rfl ?_
      exact hn33 (v1_33 + 1) (up (up this_imaged_33 (ix (25 + v1_33)) x52) (ix (30 + v1_33)) x67) h
  · refine r_aload_n C (pc := 13) dX9_image_13 rfl 0 rfl ?_
    refine r_get C (pc := 14) dX9_image_14 gf_X9_image_92 0 rfl rfl ?_
    refine r_iload_n C (pc := 17) dX9_image_17 rfl 1 rfl ?_
    refine r_aload_n C (pc := 18) dX9_image_18 rfl 0 rfl ?_
    refine r_get C (pc := 19) dX9_image_19 gf_X9_image_15 0 rfl rfl ?_
    refine r_iload_n C (pc := 22) dX9_image_22 rfl 1 rfl ?_
    refine r_iald C (pc := 23) dX9_image_23 h 1 rfl (fun h => ?_)
    refine r_let h (fun x24 h => ?_)
    refine r_iast C (pc := 24) dX9_image_24 h 11 rfl (ws' := w_X9_image (xG g) q (up F 33 1) c_this_far c_this_number c_this_becomes c_this_seenSplit c_this_seenWeight c_this_eventWhat c_this_eventBy c_this_bookOne c_this_bookOther c_this_bookFar (up this_imaged_7 (ix v1_7) x24)) rfl (fun h => ?_)
    refine r_iinc C (pc := 25) dX9_image_25 1 rfl (by decide) (L' := [(0, .ref (q 35)), (1, .int (jz (v1_7 + 1)))]) rfl ?_
    refine r_goto C (pc := 28) 7 dX9_image_28 rfl ?_
    exact hn7 (v1_7 + 1) (up this_imaged_7 (ix v1_7) x24) h
theorem c_X9_image (l : Launch) (G : gG) (q : Nat → Nat) (F : Nat → Int) (c_this_far : Nat → Int) (c_this_number : Nat → Int) (c_this_becomes : Nat → Int) (c_this_seenSplit : Nat → Int) (c_this_seenWeight : Nat → Int) (c_this_eventWhat : Nat → Int) (c_this_eventBy : Nat → Int) (c_this_bookOne : Nat → Int) (c_this_bookOther : Nat → Int) (c_this_bookFar : Nat → Int) (c_this_imaged : Nat → Int) (r : Int) (o0 : Int) (o1 : Nat → Int) (hf : f_X9_image (F 0) (F 4) (F 7) (F 10) (F 33) c_this_far c_this_number c_this_becomes c_this_seenSplit c_this_seenWeight c_this_eventWhat c_this_eventBy c_this_bookOne c_this_bookOther c_this_bookFar c_this_imaged = some (r, o0, o1)) : CTi l yX9_image wsX9_image rm_X9_image G (w_X9_image G q F c_this_far c_this_number c_this_becomes c_this_seenSplit c_this_seenWeight c_this_eventWhat c_this_eventBy c_this_bookOne c_this_bookOther c_this_bookFar c_this_imaged) [.ref (q 35)] (jz r) (w_X9_image G q (up F 33 o0) c_this_far c_this_number c_this_becomes c_this_seenSplit c_this_seenWeight c_this_eventWhat c_this_eventBy c_this_bookOne c_this_bookOther c_this_bookFar o1) := CTi_of (by decide) rfl rfl (Nat.le_of_ble_eq_true rfl) (fun g C hG hl hF => by
    subst hG
    subst hl
    exact k_X9_image C q F c_this_far c_this_number c_this_becomes c_this_seenSplit c_this_seenWeight c_this_eventWhat c_this_eventBy c_this_bookOne c_this_bookOther c_this_bookFar c_this_imaged (fun x => x = (r, o0, o1)) (fun r' o0' o1' e => by cases e; exact hF) ⟨_, hf, rfl⟩)

-- TightHullsModel.undo()I
def f_X9_undo (m_points : Int) (m_seen : Int) (m_events : Int) (m_books : Int) (m_hasImage : Int) (c_this_far : Nat → Int) (c_this_number : Nat → Int) (c_this_becomes : Nat → Int) (c_this_seenSplit : Nat → Int) (c_this_seenWeight : Nat → Int) (c_this_eventWhat : Nat → Int) (c_this_eventBy : Nat → Int) (c_this_bookOne : Nat → Int) (c_this_bookOther : Nat → Int) (c_this_bookFar : Nat → Int) (c_this_imaged : Nat → Int) : Option (Int × Int × Int × Int × Int × (Nat → Int) × (Nat → Int) × (Nat → Int) × (Nat → Int) × (Nat → Int) × (Nat → Int) × (Nat → Int) × (Nat → Int) × (Nat → Int) × (Nat → Int)) := if eqI m_hasImage 0 = true then (some ((-3), m_points, m_seen, m_events, m_books, c_this_far, c_this_number, c_this_becomes, c_this_seenSplit, c_this_seenWeight, c_this_eventWhat, c_this_eventBy, c_this_bookOne, c_this_bookOther, c_this_bookFar)) else (lq2 (fun (n12 : Int → (Nat → Int) → Option (Int × Int × Int × Int × Int × (Nat → Int) × (Nat → Int) × (Nat → Int) × (Nat → Int) × (Nat → Int) × (Nat → Int) × (Nat → Int) × (Nat → Int) × (Nat → Int) × (Nat → Int))) (v1_12 : Int) (this_far_12 : Nat → Int) => if ltI v1_12 25 = true then (grd (iin v1_12 88) (lv ((c_this_imaged (ix v1_12))) (fun x29 => grd (iin v1_12 25) (n12 (v1_12 + 1) (up this_far_12 (ix v1_12) x29))))) else (lq3 (fun (n38 : Int → (Nat → Int) → (Nat → Int) → Option (Int × Int × Int × Int × Int × (Nat → Int) × (Nat → Int) × (Nat → Int) × (Nat → Int) × (Nat → Int) × (Nat → Int) × (Nat → Int) × (Nat → Int) × (Nat → Int) × (Nat → Int))) (v1_38 : Int) (this_number_38 : Nat → Int) (this_becomes_38 : Nat → Int) => if ltI v1_38 5 = true then (grd (iin (25 + v1_38) 88) (lv ((c_this_imaged (ix (25 + v1_38)))) (fun x57 => grd (iin v1_38 5) (grd (iin (30 + v1_38) 88) (lv ((c_this_imaged (ix (30 + v1_38)))) (fun x72 => grd (iin v1_38 5) (n38 (v1_38 + 1) (up this_number_38 (ix v1_38) x57) (up this_becomes_38 (ix v1_38) x72)))))))) else (lq3 (fun (n81 : Int → (Nat → Int) → (Nat → Int) → Option (Int × Int × Int × Int × Int × (Nat → Int) × (Nat → Int) × (Nat → Int) × (Nat → Int) × (Nat → Int) × (Nat → Int) × (Nat → Int) × (Nat → Int) × (Nat → Int) × (Nat → Int))) (v1_81 : Int) (this_seenSplit_81 : Nat → Int) (this_seenWeight_81 : Nat → Int) => if ltI v1_81 4 = true then (grd (iin (35 + v1_81) 88) (lv ((c_this_imaged (ix (35 + v1_81)))) (fun x100 => grd (iin v1_81 4) (grd (iin (39 + v1_81) 88) (lv ((c_this_imaged (ix (39 + v1_81)))) (fun x115 => grd (iin v1_81 4) (n81 (v1_81 + 1) (up this_seenSplit_81 (ix v1_81) x100) (up this_seenWeight_81 (ix v1_81) x115)))))))) else (lq6 (fun (n124 : Int → (Nat → Int) → (Nat → Int) → (Nat → Int) → (Nat → Int) → (Nat → Int) → Option (Int × Int × Int × Int × Int × (Nat → Int) × (Nat → Int) × (Nat → Int) × (Nat → Int) × (Nat → Int) × (Nat → Int) × (Nat → Int) × (Nat → Int) × (Nat → Int) × (Nat → Int))) (v1_124 : Int) (this_eventWhat_124 : Nat → Int) (this_eventBy_124 : Nat → Int) (this_bookOne_124 : Nat → Int) (this_bookOther_124 : Nat → Int) (this_bookFar_124 : Nat → Int) => if ltI v1_124 8 = true then (grd (iin (43 + v1_124) 88) (lv ((c_this_imaged (ix (43 + v1_124)))) (fun x144 => grd (iin v1_124 8) (grd (iin (51 + v1_124) 88) (lv ((c_this_imaged (ix (51 + v1_124)))) (fun x159 => grd (iin v1_124 8) (grd (iin (59 + v1_124) 88) (lv ((c_this_imaged (ix (59 + v1_124)))) (fun x174 => grd (iin v1_124 8) (grd (iin (67 + v1_124) 88) (lv ((c_this_imaged (ix (67 + v1_124)))) (fun x189 => grd (iin v1_124 8) (grd (iin (75 + v1_124) 88) (lv ((c_this_imaged (ix (75 + v1_124)))) (fun x204 => grd (iin v1_124 8) (n124 (v1_124 + 1) (up this_eventWhat_124 (ix v1_124) x144) (up this_eventBy_124 (ix v1_124) x159) (up this_bookOne_124 (ix v1_124) x174) (up this_bookOther_124 (ix v1_124) x189) (up this_bookFar_124 (ix v1_124) x204))))))))))))))))) else (grd (iin 83 88) (lv ((c_this_imaged (ix 83))) (fun x219 => grd (iin 84 88) (lv ((c_this_imaged (ix 84))) (fun x230 => grd (iin 85 88) (lv ((c_this_imaged (ix 85))) (fun x241 => grd (iin 86 88) (lv ((c_this_imaged (ix 86))) (fun x252 => bd1 (f_X9_girth x219 this_far_12) (fun r256 => some (r256, x219, x230, x241, x252, this_far_12, this_number_38, this_becomes_38, this_seenSplit_81, this_seenWeight_81, this_eventWhat_124, this_eventBy_124, this_bookOne_124, this_bookOther_124, this_bookFar_124)))))))))))) 300 0 c_this_eventWhat c_this_eventBy c_this_bookOne c_this_bookOther c_this_bookFar)) 300 0 c_this_seenSplit c_this_seenWeight)) 300 0 c_this_number c_this_becomes)) 300 0 c_this_far)
abbrev rm_X9_undo : Room := { frames := 2, cells := 0, slots := 0, locals := 45 }
abbrev w_X9_undo (G : gG) (q : Nat → Nat) (F : Nat → Int) (c_this_far : Nat → Int) (c_this_number : Nat → Int) (c_this_becomes : Nat → Int) (c_this_seenSplit : Nat → Int) (c_this_seenWeight : Nat → Int) (c_this_eventWhat : Nat → Int) (c_this_eventBy : Nat → Int) (c_this_bookOne : Nat → Int) (c_this_bookOther : Nat → Int) (c_this_bookFar : Nat → Int) (c_this_imaged : Nat → Int) : va_W := [((q 35), oX9 F q), ((q 1), aI G 25 c_this_far), ((q 2), aI G 5 c_this_number), ((q 3), aI G 5 c_this_becomes), ((q 5), aI G 4 c_this_seenSplit), ((q 6), aI G 4 c_this_seenWeight), ((q 8), aI G 8 c_this_eventWhat), ((q 9), aI G 8 c_this_eventBy), ((q 11), aI G 8 c_this_bookOne), ((q 12), aI G 8 c_this_bookOther), ((q 13), aI G 8 c_this_bookFar), ((q 34), aI G 88 c_this_imaged)]
theorem hd_X9_undo : yX9_undo.cls = RX9 ∧ yX9_undo.cls ≠ "java/lang/invoke/MethodHandle" ∧ yX9_undo.cls ≠ "java/lang/invoke/VarHandle" ∧ (parseMethodDescriptor yX9_undo.desc).map (fun d => d.parameters.length) = some 0 := by decide +kernel
theorem in_X9_undo_X9 : ∀ w ∈ u_ws RX9 TX9 35, w ∈ wsX9_undo := fun w h => List.mem_cons_of_mem _ (List.mem_append_right _ (h))
theorem gf_X9_undo_303 : GF wsX9_undo RX9 303 8 33 := ⟨RX9, TX9, 35, rfl, in_X9_undo_X9, by decide, List.mem_of_getElem? (i := 1) rfl⟩
theorem gf_X9_undo_92 : GF wsX9_undo RX9 92 8 34 := ⟨RX9, TX9, 35, rfl, in_X9_undo_X9, by decide, List.mem_of_getElem? (i := 3) rfl⟩
theorem pf_X9_undo_9 : PF wsX9_undo RX9 9 8 0 .int false := ⟨RX9, TX9, 35, tyX9, rfl, in_X9_undo_X9, tyX9_ok, nmX9, by decide, List.mem_of_getElem? (i := 13) rfl, rfl, rfl, rfl⟩
theorem pf_X9_undo_239 : PF wsX9_undo RX9 239 8 4 .int false := ⟨RX9, TX9, 35, tyX9, rfl, in_X9_undo_X9, tyX9_ok, nmX9, by decide, List.mem_of_getElem? (i := 14) rfl, rfl, rfl, rfl⟩
theorem pf_X9_undo_251 : PF wsX9_undo RX9 251 8 7 .int false := ⟨RX9, TX9, 35, tyX9, rfl, in_X9_undo_X9, tyX9_ok, nmX9, by decide, List.mem_of_getElem? (i := 15) rfl, rfl, rfl, rfl⟩
theorem pf_X9_undo_258 : PF wsX9_undo RX9 258 8 10 .int false := ⟨RX9, TX9, 35, tyX9, rfl, in_X9_undo_X9, tyX9_ok, nmX9, by decide, List.mem_of_getElem? (i := 16) rfl, rfl, rfl, rfl⟩
theorem gf_X9_undo_31 : GF wsX9_undo RX9 31 8 8 := ⟨RX9, TX9, 35, rfl, in_X9_undo_X9, by decide, List.mem_of_getElem? (i := 8) rfl⟩
theorem gf_X9_undo_34 : GF wsX9_undo RX9 34 8 9 := ⟨RX9, TX9, 35, rfl, in_X9_undo_X9, by decide, List.mem_of_getElem? (i := 9) rfl⟩
theorem gf_X9_undo_37 : GF wsX9_undo RX9 37 8 11 := ⟨RX9, TX9, 35, rfl, in_X9_undo_X9, by decide, List.mem_of_getElem? (i := 10) rfl⟩
theorem gf_X9_undo_40 : GF wsX9_undo RX9 40 8 12 := ⟨RX9, TX9, 35, rfl, in_X9_undo_X9, by decide, List.mem_of_getElem? (i := 11) rfl⟩
theorem gf_X9_undo_43 : GF wsX9_undo RX9 43 8 13 := ⟨RX9, TX9, 35, rfl, in_X9_undo_X9, by decide, List.mem_of_getElem? (i := 12) rfl⟩
theorem gf_X9_undo_25 : GF wsX9_undo RX9 25 8 5 := ⟨RX9, TX9, 35, rfl, in_X9_undo_X9, by decide, List.mem_of_getElem? (i := 6) rfl⟩
theorem gf_X9_undo_28 : GF wsX9_undo RX9 28 8 6 := ⟨RX9, TX9, 35, rfl, in_X9_undo_X9, by decide, List.mem_of_getElem? (i := 7) rfl⟩
theorem gf_X9_undo_19 : GF wsX9_undo RX9 19 8 2 := ⟨RX9, TX9, 35, rfl, in_X9_undo_X9, by decide, List.mem_of_getElem? (i := 4) rfl⟩
theorem gf_X9_undo_22 : GF wsX9_undo RX9 22 8 3 := ⟨RX9, TX9, 35, rfl, in_X9_undo_X9, by decide, List.mem_of_getElem? (i := 5) rfl⟩
theorem gf_X9_undo_15 : GF wsX9_undo RX9 15 8 1 := ⟨RX9, TX9, 35, rfl, in_X9_undo_X9, by decide, List.mem_of_getElem? (i := 2) rfl⟩
set_option maxRecDepth 100000 in
set_option maxHeartbeats 4000000 in
theorem k_X9_undo {g : XC} (C : XOk g cX9_undo RX9 wsX9_undo rm_X9_undo 2) (q : Nat → Nat) (F : Nat → Int) (c_this_far : Nat → Int) (c_this_number : Nat → Int) (c_this_becomes : Nat → Int) (c_this_seenSplit : Nat → Int) (c_this_seenWeight : Nat → Int) (c_this_eventWhat : Nat → Int) (c_this_eventBy : Nat → Int) (c_this_bookOne : Nat → Int) (c_this_bookOther : Nat → Int) (c_this_bookFar : Nat → Int) (c_this_imaged : Nat → Int)  (K : (Int × Int × Int × Int × Int × (Nat → Int) × (Nat → Int) × (Nat → Int) × (Nat → Int) × (Nat → Int) × (Nat → Int) × (Nat → Int) × (Nat → Int) × (Nat → Int) × (Nat → Int)) → Prop) (hK : ∀ (r : Int) (o0 : Int) (o1 : Int) (o2 : Int) (o3 : Int) (o4 : Nat → Int) (o5 : Nat → Int) (o6 : Nat → Int) (o7 : Nat → Int) (o8 : Nat → Int) (o9 : Nat → Int) (o10 : Nat → Int) (o11 : Nat → Int) (o12 : Nat → Int) (o13 : Nat → Int), K (r, o0, o1, o2, o3, o4, o5, o6, o7, o8, o9, o10, o11, o12, o13) → (narrow .int (.int (jz r)) = .int (jz r) → FinI g 0 0 (w_X9_undo (xG g) q (up (up (up (up F 0 o0) 4 o1) 7 o2) 10 o3) o4 o5 o6 o7 o8 o9 o10 o11 o12 o13 c_this_imaged) (jz r))) (h : wp (f_X9_undo (F 0) (F 4) (F 7) (F 10) (F 33) c_this_far c_this_number c_this_becomes c_this_seenSplit c_this_seenWeight c_this_eventWhat c_this_eventBy c_this_bookOne c_this_bookOther c_this_bookFar c_this_imaged) K) : WW g 0 0 (w_X9_undo (xG g) q F c_this_far c_this_number c_this_becomes c_this_seenSplit c_this_seenWeight c_this_eventWhat c_this_eventBy c_this_bookOne c_this_bookOther c_this_bookFar c_this_imaged) 0 [(0, .ref (q 35))] [] := by
  unfold f_X9_undo at h
  refine r_aload_n C (pc := 0) dX9_undo_0 rfl 0 rfl ?_
  refine r_get C (pc := 1) dX9_undo_1 gf_X9_undo_303 0 rfl rfl ?_
  refine r_if_ne C (pc := 4) 10 dX9_undo_4 rfl h (fun c4 h => ?_) (fun c4 h => ?_)
  · refine r_iconst C (pc := 10) dX9_undo_10 ?_
    refine r_istore_n C (pc := 11) dX9_undo_11 rfl (by decide) (L' := [(0, .ref (q 35)), (1, .int (jz 0))]) rfl ?_
    refine lq2_e (fun (v1_12 : Int) (this_far_12 : Nat → Int) => WW g 0 0 (w_X9_undo (xG g) q F this_far_12 c_this_number c_this_becomes c_this_seenSplit c_this_seenWeight c_this_eventWhat c_this_eventBy c_this_bookOne c_this_bookOther c_this_bookFar c_this_imaged) 12 [(0, .ref (q 35)), (1, .int (jz v1_12))] []) h (fun n12 hn12 v1_12 this_far_12 h => ?_)
    refine r_iload_n C (pc := 12) dX9_undo_12 rfl 1 rfl ?_
    refine r_bipush C (pc := 13) dX9_undo_13 rfl ?_
    refine r_icmp_ge C (pc := 15) 36 dX9_undo_15 rfl h (fun c15 h => ?_) (fun c15 h => ?_)
    · refine r_iconst C (pc := 36) dX9_undo_36 ?_
      refine r_istore_n C (pc := 37) dX9_undo_37 rfl (by decide) (L' := [(0, .ref (q 35)), (1, .int (jz 0))]) rfl ?_
      refine lq3_e (fun (v1_38 : Int) (this_number_38 : Nat → Int) (this_becomes_38 : Nat → Int) => WW g 0 0 (w_X9_undo (xG g) q F this_far_12 this_number_38 this_becomes_38 c_this_seenSplit c_this_seenWeight c_this_eventWhat c_this_eventBy c_this_bookOne c_this_bookOther c_this_bookFar c_this_imaged) 38 [(0, .ref (q 35)), (1, .int (jz v1_38))] []) h (fun n38 hn38 v1_38 this_number_38 this_becomes_38 h => ?_)
      refine r_iload_n C (pc := 38) dX9_undo_38 rfl 1 rfl ?_
      refine r_iconst C (pc := 39) dX9_undo_39 ?_
      refine r_icmp_ge C (pc := 40) 79 dX9_undo_40 rfl h (fun c40 h => ?_) (fun c40 h => ?_)
      · refine r_iconst C (pc := 79) dX9_undo_79 ?_
        refine r_istore_n C (pc := 80) dX9_undo_80 rfl (by decide) (L' := [(0, .ref (q 35)), (1, .int (jz 0))]) rfl ?_
        refine lq3_e (fun (v1_81 : Int) (this_seenSplit_81 : Nat → Int) (this_seenWeight_81 : Nat → Int) => WW g 0 0 (w_X9_undo (xG g) q F this_far_12 this_number_38 this_becomes_38 this_seenSplit_81 this_seenWeight_81 c_this_eventWhat c_this_eventBy c_this_bookOne c_this_bookOther c_this_bookFar c_this_imaged) 81 [(0, .ref (q 35)), (1, .int (jz v1_81))] []) h (fun n81 hn81 v1_81 this_seenSplit_81 this_seenWeight_81 h => ?_)
        refine r_iload_n C (pc := 81) dX9_undo_81 rfl 1 rfl ?_
        refine r_iconst C (pc := 82) dX9_undo_82 ?_
        refine r_icmp_ge C (pc := 83) 122 dX9_undo_83 rfl h (fun c83 h => ?_) (fun c83 h => ?_)
        · refine r_iconst C (pc := 122) dX9_undo_122 ?_
          refine r_istore_n C (pc := 123) dX9_undo_123 rfl (by decide) (L' := [(0, .ref (q 35)), (1, .int (jz 0))]) rfl ?_
          refine lq6_e (fun (v1_124 : Int) (this_eventWhat_124 : Nat → Int) (this_eventBy_124 : Nat → Int) (this_bookOne_124 : Nat → Int) (this_bookOther_124 : Nat → Int) (this_bookFar_124 : Nat → Int) => WW g 0 0 (w_X9_undo (xG g) q F this_far_12 this_number_38 this_becomes_38 this_seenSplit_81 this_seenWeight_81 this_eventWhat_124 this_eventBy_124 this_bookOne_124 this_bookOther_124 this_bookFar_124 c_this_imaged) 124 [(0, .ref (q 35)), (1, .int (jz v1_124))] []) h (fun n124 hn124 v1_124 this_eventWhat_124 this_eventBy_124 this_bookOne_124 this_bookOther_124 this_bookFar_124 h => ?_)
          refine r_iload_n C (pc := 124) dX9_undo_124 rfl 1 rfl ?_
          refine r_bipush C (pc := 125) dX9_undo_125 rfl ?_
          refine r_icmp_ge C (pc := 127) 211 dX9_undo_127 rfl h (fun c127 h => ?_) (fun c127 h => ?_)
          · refine r_aload_n C (pc := 211) dX9_undo_211 rfl 0 rfl ?_
            refine r_aload_n C (pc := 212) dX9_undo_212 rfl 0 rfl ?_
            refine r_get C (pc := 213) dX9_undo_213 gf_X9_undo_92 0 rfl rfl ?_
            refine r_bipush C (pc := 216) dX9_undo_216 rfl ?_
            refine r_iald C (pc := 218) dX9_undo_218 h 11 rfl (fun h => ?_)
            refine r_let h (fun x219 h => ?_)
            refine r_puti C (pc := 219) dX9_undo_219 pf_X9_undo_9 0 rfl (Nat.le_of_ble_eq_true rfl) (ws' := w_X9_undo (xG g) q (up F 0 x219) this_far_12 this_number_38 this_becomes_38 this_seenSplit_81 this_seenWeight_81 this_eventWhat_124 this_eventBy_124 this_bookOne_124 this_bookOther_124 this_bookFar_124 c_this_imaged) rfl ?_
            refine r_aload_n C (pc := 222) dX9_undo_222 rfl 0 rfl ?_
            refine r_aload_n C (pc := 223) dX9_undo_223 rfl 0 rfl ?_
            refine r_get C (pc := 224) dX9_undo_224 gf_X9_undo_92 0 rfl rfl ?_
            refine r_bipush C (pc := 227) dX9_undo_227 rfl ?_
            refine r_iald C (pc := 229) dX9_undo_229 h 11 rfl (fun h => ?_)
            refine r_let h (fun x230 h => ?_)
            refine r_puti C (pc := 230) dX9_undo_230 pf_X9_undo_239 0 rfl (Nat.le_of_ble_eq_true rfl) (ws' := w_X9_undo (xG g) q (up (up F 0 x219) 4 x230) this_far_12 this_number_38 this_becomes_38 this_seenSplit_81 this_seenWeight_81 this_eventWhat_124 this_eventBy_124 this_bookOne_124 this_bookOther_124 this_bookFar_124 c_this_imaged) rfl ?_
            refine r_aload_n C (pc := 233) dX9_undo_233 rfl 0 rfl ?_
            refine r_aload_n C (pc := 234) dX9_undo_234 rfl 0 rfl ?_
            refine r_get C (pc := 235) dX9_undo_235 gf_X9_undo_92 0 rfl rfl ?_
            refine r_bipush C (pc := 238) dX9_undo_238 rfl ?_
            refine r_iald C (pc := 240) dX9_undo_240 h 11 rfl (fun h => ?_)
            refine r_let h (fun x241 h => ?_)
            refine r_puti C (pc := 241) dX9_undo_241 pf_X9_undo_251 0 rfl (Nat.le_of_ble_eq_true rfl) (ws' := w_X9_undo (xG g) q (up (up (up F 0 x219) 4 x230) 7 x241) this_far_12 this_number_38 this_becomes_38 this_seenSplit_81 this_seenWeight_81 this_eventWhat_124 this_eventBy_124 this_bookOne_124 this_bookOther_124 this_bookFar_124 c_this_imaged) rfl ?_
            refine r_aload_n C (pc := 244) dX9_undo_244 rfl 0 rfl ?_
            refine r_aload_n C (pc := 245) dX9_undo_245 rfl 0 rfl ?_
            refine r_get C (pc := 246) dX9_undo_246 gf_X9_undo_92 0 rfl rfl ?_
            refine r_bipush C (pc := 249) dX9_undo_249 rfl ?_
            refine r_iald C (pc := 251) dX9_undo_251 h 11 rfl (fun h => ?_)
            refine r_let h (fun x252 h => ?_)
            refine r_puti C (pc := 252) dX9_undo_252 pf_X9_undo_258 0 rfl (Nat.le_of_ble_eq_true rfl) (ws' := w_X9_undo (xG g) q (up (up (up (up F 0 x219) 4 x230) 7 x241) 10 x252) this_far_12 this_number_38 this_becomes_38 this_seenSplit_81 this_seenWeight_81 this_eventWhat_124 this_eventBy_124 this_bookOne_124 this_bookOther_124 this_bookFar_124 c_this_imaged) rfl ?_
            refine r_aload_n C (pc := 255) dX9_undo_255 rfl 0 rfl ?_
            obtain ⟨r256, e256, h⟩ := wp_b1 h
            refine b_cVi C (pc := 256) dX9_undo_256 (c_X9_girth (xl g) (xG g) q (up (up (up (up F 0 x219) 4 x230) 7 x241) 10 x252) this_far_12 r256 e256) rfl gX9_undo_X9_girth ⟨rfl, rfl⟩ 0 hd_X9_girth ⟨Nat.le_of_ble_eq_true rfl, Nat.le_of_ble_eq_true rfl⟩ rfl 0 rfl rfl rfl [0, 1] rfl (srt_nd 0 rfl) (ws' := w_X9_undo (xG g) q (up (up (up (up F 0 x219) 4 x230) 7 x241) 10 x252) this_far_12 this_number_38 this_becomes_38 this_seenSplit_81 this_seenWeight_81 this_eventWhat_124 this_eventBy_124 this_bookOne_124 this_bookOther_124 this_bookFar_124 c_this_imaged) (Put.m rfl rfl rfl) rfl (rest := []) rfl (Nat.le_of_ble_eq_true rfl) ⟨Nat.zero_le _, Nat.zero_le _⟩ ?_
            exact r_iret C (pc := 259) dX9_undo_259 (hK r256 x219 x230 x241 x252 this_far_12 this_number_38 this_becomes_38 this_seenSplit_81 this_seenWeight_81 this_eventWhat_124 this_eventBy_124 this_bookOne_124 this_bookOther_124 this_bookFar_124 (wp_s h) rfl)
          · refine r_aload_n C (pc := 130) dX9_undo_130 rfl 0 rfl ?_
            refine r_get C (pc := 131) dX9_undo_131 gf_X9_undo_31 0 rfl rfl ?_
            refine r_iload_n C (pc := 134) dX9_undo_134 rfl 1 rfl ?_
            refine r_aload_n C (pc := 135) dX9_undo_135 rfl 0 rfl ?_
            refine r_get C (pc := 136) dX9_undo_136 gf_X9_undo_92 0 rfl rfl ?_
            refine r_bipush C (pc := 139) dX9_undo_139 rfl ?_
            refine r_iload_n C (pc := 141) dX9_undo_141 rfl 1 rfl ?_
            refine r_iadd C (pc := 142) dX9_undo_142 ?_
            refine r_iald C (pc := 143) dX9_undo_143 h 11 rfl (fun h => ?_)
            refine r_let h (fun x144 h => ?_)
            refine r_iast C (pc := 144) dX9_undo_144 h 6 rfl (ws' := w_X9_undo (xG g) q F this_far_12 this_number_38 this_becomes_38 this_seenSplit_81 this_seenWeight_81 (up this_eventWhat_124 (ix v1_124) x144) this_eventBy_124 this_bookOne_124 this_bookOther_124 this_bookFar_124 c_this_imaged) rfl (fun h => ?_)
            refine r_aload_n C (pc := 145) dX9_undo_145 rfl 0 rfl ?_
            refine r_get C (pc := 146) dX9_undo_146 gf_X9_undo_34 0 rfl rfl ?_
            refine r_iload_n C (pc := 149) dX9_undo_149 rfl 1 rfl ?_
            refine r_aload_n C (pc := 150) dX9_undo_150 rfl 0 rfl ?_
            refine r_get C (pc := 151) dX9_undo_151 gf_X9_undo_92 0 rfl rfl ?_
            refine r_bipush C (pc := 154) dX9_undo_154 rfl ?_
            refine r_iload_n C (pc := 156) dX9_undo_156 rfl 1 rfl ?_
            refine r_iadd C (pc := 157) dX9_undo_157 ?_
            refine r_iald C (pc := 158) dX9_undo_158 h 11 rfl (fun h => ?_)
            refine r_let h (fun x159 h => ?_)
            refine r_iast C (pc := 159) dX9_undo_159 h 7 rfl (ws' := w_X9_undo (xG g) q F this_far_12 this_number_38 this_becomes_38 this_seenSplit_81 this_seenWeight_81 (up this_eventWhat_124 (ix v1_124) x144) (up this_eventBy_124 (ix v1_124) x159) this_bookOne_124 this_bookOther_124 this_bookFar_124 c_this_imaged) rfl (fun h => ?_)
            refine r_aload_n C (pc := 160) dX9_undo_160 rfl 0 rfl ?_
            refine r_get C (pc := 161) dX9_undo_161 gf_X9_undo_37 0 rfl rfl ?_
            refine r_iload_n C (pc := 164) dX9_undo_164 rfl 1 rfl ?_
            refine r_aload_n C (pc := 165) dX9_undo_165 rfl 0 rfl ?_
            refine r_get C (pc := 166) dX9_undo_166 gf_X9_undo_92 0 rfl rfl ?_
            refine r_bipush C (pc := 169) dX9_undo_169 rfl ?_
            refine r_iload_n C (pc := 171) dX9_undo_171 rfl 1 rfl ?_
            refine r_iadd C (pc := 172) dX9_undo_172 ?_
            refine r_iald C (pc := 173) dX9_undo_173 h 11 rfl (fun h => ?_)
            refine r_let h (fun x174 h => ?_)
            refine r_iast C (pc := 174) dX9_undo_174 h 8 rfl (ws' := w_X9_undo (xG g) q F this_far_12 this_number_38 this_becomes_38 this_seenSplit_81 this_seenWeight_81 (up this_eventWhat_124 (ix v1_124) x144) (up this_eventBy_124 (ix v1_124) x159) (up this_bookOne_124 (ix v1_124) x174) this_bookOther_124 this_bookFar_124 c_this_imaged) rfl (fun h => ?_)
            refine r_aload_n C (pc := 175) dX9_undo_175 rfl 0 rfl ?_
            refine r_get C (pc := 176) dX9_undo_176 gf_X9_undo_40 0 rfl rfl ?_
            refine r_iload_n C (pc := 179) dX9_undo_179 rfl 1 rfl ?_
            refine r_aload_n C (pc := 180) dX9_undo_180 rfl 0 rfl ?_
            refine r_get C (pc := 181) dX9_undo_181 gf_X9_undo_92 0 rfl rfl ?_
            refine r_bipush C (pc := 184) dX9_undo_184 rfl ?_
            refine r_iload_n C (pc := 186) dX9_undo_186 rfl 1 rfl ?_
            refine r_iadd C (pc := 187) dX9_undo_187 ?_
            refine r_iald C (pc := 188) dX9_undo_188 h 11 rfl (fun h => ?_)
            refine r_let h (fun x189 h => ?_)
            refine r_iast C (pc := 189) dX9_undo_189 h 9 rfl (ws' := w_X9_undo (xG g) q F this_far_12 this_number_38 this_becomes_38 this_seenSplit_81 this_seenWeight_81 (up this_eventWhat_124 (ix v1_124) x144) (up this_eventBy_124 (ix v1_124) x159) (up this_bookOne_124 (ix v1_124) x174) (up this_bookOther_124 (ix v1_124) x189) this_bookFar_124 c_this_imaged) rfl (fun h => ?_)
            refine r_aload_n C (pc := 190) dX9_undo_190 rfl 0 rfl ?_
            refine r_get C (pc := 191) dX9_undo_191 gf_X9_undo_43 0 rfl rfl ?_
            refine r_iload_n C (pc := 194) dX9_undo_194 rfl 1 rfl ?_
            refine r_aload_n C (pc := 195) dX9_undo_195 rfl 0 rfl ?_
            refine r_get C (pc := 196) dX9_undo_196 gf_X9_undo_92 0 rfl rfl ?_
            refine r_bipush C (pc := 199) dX9_undo_199 rfl ?_
            refine r_iload_n C (pc := 201) dX9_undo_201 rfl 1 rfl ?_
            refine r_iadd C (pc := 202) dX9_undo_202 ?_
            refine r_iald C (pc := 203) dX9_undo_203 h 11 rfl (fun h => ?_)
            refine r_let h (fun x204 h => ?_)
            refine r_iast C (pc := 204) dX9_undo_204 h 10 rfl (ws' := w_X9_undo (xG g) q F this_far_12 this_number_38 this_becomes_38 this_seenSplit_81 this_seenWeight_81 (up this_eventWhat_124 (ix v1_124) x144) (up this_eventBy_124 (ix v1_124) x159) (up this_bookOne_124 (ix v1_124) x174) (up this_bookOther_124 (ix v1_124) x189) (up this_bookFar_124 (ix v1_124) x204) c_this_imaged) rfl (fun h => ?_)
            refine r_iinc C (pc := 205) dX9_undo_205 1 rfl (by decide) (L' := [(0, .ref (q 35)), (1, .int (jz (v1_124 + 1)))]) rfl ?_
            refine r_goto C (pc := 208) 124 dX9_undo_208 rfl ?_
            exact hn124 (v1_124 + 1) (up this_eventWhat_124 (ix v1_124) x144) (up this_eventBy_124 (ix v1_124) x159) (up this_bookOne_124 (ix v1_124) x174) (up this_bookOther_124 (ix v1_124) x189) (up this_bookFar_124 (ix v1_124) x204) h
        · refine r_aload_n C (pc := 86) dX9_undo_86 rfl 0 rfl ?_
          refine r_get C (pc := 87) dX9_undo_87 gf_X9_undo_25 0 rfl rfl ?_
          refine r_iload_n C (pc := 90) dX9_undo_90 rfl 1 rfl ?_
          refine r_aload_n C (pc := 91) dX9_undo_91 rfl 0 rfl ?_
          refine r_get C (pc := 92) dX9_undo_92 gf_X9_undo_92 0 rfl rfl ?_
          refine r_bipush C (pc := 95) dX9_undo_95 rfl ?_
          refine r_iload_n C (pc := 97) dX9_undo_97 rfl 1 rfl ?_
          refine r_iadd C (pc := 98) dX9_undo_98 ?_
          refine r_iald C (pc := 99) dX9_undo_99 h 11 rfl (fun h => ?_)
          refine r_let h (fun x100 h => ?_)
          refine r_iast C (pc := 100) dX9_undo_100 h 4 rfl (ws' := w_X9_undo (xG g) q F this_far_12 this_number_38 this_becomes_38 (up this_seenSplit_81 (ix v1_81) x100) this_seenWeight_81 c_this_eventWhat c_this_eventBy c_this_bookOne c_this_bookOther c_this_bookFar c_this_imaged) rfl (fun h => ?_)
          refine r_aload_n C (pc := 101) dX9_undo_101 rfl 0 rfl ?_
          refine r_get C (pc := 102) dX9_undo_102 gf_X9_undo_28 0 rfl rfl ?_
          refine r_iload_n C (pc := 105) dX9_undo_105 rfl 1 rfl ?_
          refine r_aload_n C (pc := 106) dX9_undo_106 rfl 0 rfl ?_
          refine r_get C (pc := 107) dX9_undo_107 gf_X9_undo_92 0 rfl rfl ?_
          refine r_bipush C (pc := 110) dX9_undo_110 rfl ?_
          refine r_iload_n C (pc := 112) dX9_undo_112 rfl 1 rfl ?_
          refine r_iadd C (pc := 113) dX9_undo_113 ?_
          refine r_iald C (pc := 114) dX9_undo_114 h 11 rfl (fun h => ?_)
          refine r_let h (fun x115 h => ?_)
          refine r_iast C (pc := 115) dX9_undo_115 h 5 rfl (ws' := w_X9_undo (xG g) q F this_far_12 this_number_38 this_becomes_38 (up this_seenSplit_81 (ix v1_81) x100) (up this_seenWeight_81 (ix v1_81) x115) c_this_eventWhat c_this_eventBy c_this_bookOne c_this_bookOther c_this_bookFar c_this_imaged) rfl (fun h => ?_)
          refine r_iinc C (pc := 116) dX9_undo_116 1 rfl (by decide) (L' := [(0, .ref (q 35)), (1, .int (jz (v1_81 + 1)))]) rfl ?_
          refine r_goto C (pc := 119) 81 dX9_undo_119 rfl ?_
          exact hn81 (v1_81 + 1) (up this_seenSplit_81 (ix v1_81) x100) (up this_seenWeight_81 (ix v1_81) x115) h
      · refine r_aload_n C (pc := 43) dX9_undo_43 rfl 0 rfl ?_
        refine r_get C (pc := 44) dX9_undo_44 gf_X9_undo_19 0 rfl rfl ?_
        refine r_iload_n C (pc := 47) dX9_undo_47 rfl 1 rfl ?_
        refine r_aload_n C (pc := 48) dX9_undo_48 rfl 0 rfl ?_
        refine r_get C (pc := 49) dX9_undo_49 gf_X9_undo_92 0 rfl rfl ?_
        refine r_bipush C (pc := 52) dX9_undo_52 rfl ?_
        refine r_iload_n C (pc := 54) dX9_undo_54 rfl 1 rfl ?_
        refine r_iadd C (pc := 55) dX9_undo_55 ?_
        refine r_iald C (pc := 56) dX9_undo_56 h 11 rfl (fun h => ?_)
        refine r_let h (fun x57 h => ?_)
        refine r_iast C (pc := 57) dX9_undo_57 h 2 rfl (ws' := w_X9_undo (xG g) q F this_far_12 (up this_number_38 (ix v1_38) x57) this_becomes_38 c_this_seenSplit c_this_seenWeight c_this_eventWhat c_this_eventBy c_this_bookOne c_this_bookOther c_this_bookFar c_this_imaged) rfl (fun h => ?_)
        refine r_aload_n C (pc := 58) dX9_undo_58 rfl 0 rfl ?_
        refine r_get C (pc := 59) dX9_undo_59 gf_X9_undo_22 0 rfl rfl ?_
        refine r_iload_n C (pc := 62) dX9_undo_62 rfl 1 rfl ?_
        refine r_aload_n C (pc := 63) dX9_undo_63 rfl 0 rfl ?_
        refine r_get C (pc := 64) dX9_undo_64 gf_X9_undo_92 0 rfl rfl ?_
        refine r_bipush C (pc := 67) dX9_undo_67 rfl ?_
        refine r_iload_n C (pc := 69) dX9_undo_69 rfl 1 rfl ?_
        refine r_iadd C (pc := 70) dX9_undo_70 ?_
        refine r_iald C (pc := 71) dX9_undo_71 h 11 rfl (fun h => ?_)
        refine r_let h (fun x72 h => ?_)
        refine r_iast C (pc := 72) dX9_undo_72 h 3 rfl (ws' := w_X9_undo (xG g) q F this_far_12 (up this_number_38 (ix v1_38) x57) (up this_becomes_38 (ix v1_38) x72) c_this_seenSplit c_this_seenWeight c_this_eventWhat c_this_eventBy c_this_bookOne c_this_bookOther c_this_bookFar c_this_imaged) rfl (fun h => ?_)
        refine r_iinc C (pc := 73) dX9_undo_73 1 rfl (by decide) (L' := [(0, .ref (q 35)), (1, .int (jz (v1_38 + 1)))]) rfl ?_
        refine r_goto C (pc := 76) 38 dX9_undo_76 rfl ?_
        exact hn38 (v1_38 + 1) (up this_number_38 (ix v1_38) x57) (up this_becomes_38 (ix v1_38) x72) h
    · refine r_aload_n C (pc := 18) dX9_undo_18 rfl 0 rfl ?_
      refine r_get C (pc := 19) dX9_undo_19 gf_X9_undo_15 0 rfl rfl ?_
      refine r_iload_n C (pc := 22) dX9_undo_22 rfl 1 rfl ?_
      refine r_aload_n C (pc := 23) dX9_undo_23 rfl 0 rfl ?_
      refine r_get C (pc := 24) dX9_undo_24 gf_X9_undo_92 0 rfl rfl ?_
      refine r_iload_n C (pc := 27) dX9_undo_27 rfl 1 rfl ?_
      refine r_iald C (pc := 28) dX9_undo_28 h 11 rfl (fun h => ?_)
      refine r_let h (fun x29 h => ?_)
      refine r_iast C (pc := 29) dX9_undo_29 h 1 rfl (ws' := w_X9_undo (xG g) q F (up this_far_12 (ix v1_12) x29) c_this_number c_this_becomes c_this_seenSplit c_this_seenWeight c_this_eventWhat c_this_eventBy c_this_bookOne c_this_bookOther c_this_bookFar c_this_imaged) rfl (fun h => ?_)
      refine r_iinc C (pc := 30) dX9_undo_30 1 rfl (by decide) (L' := [(0, .ref (q 35)), (1, .int (jz (v1_12 + 1)))]) rfl ?_
      refine r_goto C (pc := 33) 12 dX9_undo_33 rfl ?_
      exact hn12 (v1_12 + 1) (up this_far_12 (ix v1_12) x29) h
  · refine r_bipush C (pc := 7) dX9_undo_7 rfl ?_
    exact r_iret C (pc := 9) dX9_undo_9 (hK (-3) (F 0) (F 4) (F 7) (F 10) c_this_far c_this_number c_this_becomes c_this_seenSplit c_this_seenWeight c_this_eventWhat c_this_eventBy c_this_bookOne c_this_bookOther c_this_bookFar (wp_s h) rfl)
theorem c_X9_undo (l : Launch) (G : gG) (q : Nat → Nat) (F : Nat → Int) (c_this_far : Nat → Int) (c_this_number : Nat → Int) (c_this_becomes : Nat → Int) (c_this_seenSplit : Nat → Int) (c_this_seenWeight : Nat → Int) (c_this_eventWhat : Nat → Int) (c_this_eventBy : Nat → Int) (c_this_bookOne : Nat → Int) (c_this_bookOther : Nat → Int) (c_this_bookFar : Nat → Int) (c_this_imaged : Nat → Int) (r : Int) (o0 : Int) (o1 : Int) (o2 : Int) (o3 : Int) (o4 : Nat → Int) (o5 : Nat → Int) (o6 : Nat → Int) (o7 : Nat → Int) (o8 : Nat → Int) (o9 : Nat → Int) (o10 : Nat → Int) (o11 : Nat → Int) (o12 : Nat → Int) (o13 : Nat → Int) (hf : f_X9_undo (F 0) (F 4) (F 7) (F 10) (F 33) c_this_far c_this_number c_this_becomes c_this_seenSplit c_this_seenWeight c_this_eventWhat c_this_eventBy c_this_bookOne c_this_bookOther c_this_bookFar c_this_imaged = some (r, o0, o1, o2, o3, o4, o5, o6, o7, o8, o9, o10, o11, o12, o13)) : CTi l yX9_undo wsX9_undo rm_X9_undo G (w_X9_undo G q F c_this_far c_this_number c_this_becomes c_this_seenSplit c_this_seenWeight c_this_eventWhat c_this_eventBy c_this_bookOne c_this_bookOther c_this_bookFar c_this_imaged) [.ref (q 35)] (jz r) (w_X9_undo G q (up (up (up (up F 0 o0) 4 o1) 7 o2) 10 o3) o4 o5 o6 o7 o8 o9 o10 o11 o12 o13 c_this_imaged) := CTi_of (by decide) rfl rfl (Nat.le_of_ble_eq_true rfl) (fun g C hG hl hF => by
    subst hG
    subst hl
    exact k_X9_undo C q F c_this_far c_this_number c_this_becomes c_this_seenSplit c_this_seenWeight c_this_eventWhat c_this_eventBy c_this_bookOne c_this_bookOther c_this_bookFar c_this_imaged (fun x => x = (r, o0, o1, o2, o3, o4, o5, o6, o7, o8, o9, o10, o11, o12, o13)) (fun r' o0' o1' o2' o3' o4' o5' o6' o7' o8' o9' o10' o11' o12' o13' e => by cases e; exact hF) ⟨_, hf, rfl⟩)

-- TightHullsModel.count(I)I
def f_X9_count (p1 : Int) (m_seen : Int) (m_events : Int) (m_books : Int) (m_texts : Int) : Option Int := if eqI p1 0 = true then (some m_seen) else (if eqI p1 1 = true then (some m_events) else (if eqI p1 2 = true then (some m_books) else (if eqI p1 3 = true then (some m_texts) else (some (-2)))))
abbrev rm_X9_count : Room := { frames := 0, cells := 0, slots := 0, locals := 0 }
abbrev w_X9_count (G : gG) (q : Nat → Nat) (F : Nat → Int) : va_W := [((q 35), oX9 F q)]
theorem hd_X9_count : yX9_count.cls = RX9 ∧ yX9_count.cls ≠ "java/lang/invoke/MethodHandle" ∧ yX9_count.cls ≠ "java/lang/invoke/VarHandle" ∧ (parseMethodDescriptor yX9_count.desc).map (fun d => d.parameters.length) = some 1 := by decide +kernel
theorem in_X9_count_X9 : ∀ w ∈ u_ws RX9 TX9 35, w ∈ wsX9_count := fun w h => List.mem_cons_of_mem _ (List.mem_append_right _ (h))
theorem gf_X9_count_261 : GF wsX9_count RX9 261 8 15 := ⟨RX9, TX9, 35, rfl, in_X9_count_X9, by decide, List.mem_of_getElem? (i := 4) rfl⟩
theorem gf_X9_count_258 : GF wsX9_count RX9 258 8 10 := ⟨RX9, TX9, 35, rfl, in_X9_count_X9, by decide, List.mem_of_getElem? (i := 3) rfl⟩
theorem gf_X9_count_251 : GF wsX9_count RX9 251 8 7 := ⟨RX9, TX9, 35, rfl, in_X9_count_X9, by decide, List.mem_of_getElem? (i := 2) rfl⟩
theorem gf_X9_count_239 : GF wsX9_count RX9 239 8 4 := ⟨RX9, TX9, 35, rfl, in_X9_count_X9, by decide, List.mem_of_getElem? (i := 1) rfl⟩
set_option maxRecDepth 100000 in
set_option maxHeartbeats 4000000 in
theorem k_X9_count {g : XC} (C : XOk g cX9_count RX9 wsX9_count rm_X9_count 2) (q : Nat → Nat) (F : Nat → Int) (p1 : Int) (K : Int → Prop) (hK : ∀ (r : Int), K r → (narrow .int (.int (jz r)) = .int (jz r) → FinI g 0 0 (w_X9_count (xG g) q F) (jz r))) (h : wp (f_X9_count p1 (F 4) (F 7) (F 10) (F 15)) K) : WW g 0 0 (w_X9_count (xG g) q F) 0 [(0, .ref (q 35)), (1, .int (jz p1))] [] := by
  unfold f_X9_count at h
  refine r_iload_n C (pc := 0) dX9_count_0 rfl 1 rfl ?_
  refine sw1 h (fun b1_0 h => ?_) (fun b1_0 h => ?_)
  · refine r_tableIn C (pc := 1) 32 dX9_count_1 0 (31) b1_0 (by decide) (by decide) (by decide +kernel) rfl ?_
    refine r_aload_n C (pc := 32) dX9_count_32 rfl 0 rfl ?_
    refine r_get C (pc := 33) dX9_count_33 gf_X9_count_239 0 rfl rfl ?_
    exact r_iret C (pc := 36) dX9_count_36 (hK (F 4) (wp_s h) rfl)
  · refine sw1 h (fun b1_1 h => ?_) (fun b1_1 h => ?_)
    · refine r_tableIn C (pc := 1) 37 dX9_count_1 1 (36) b1_1 (by decide) (by decide) (by decide +kernel) rfl ?_
      refine r_aload_n C (pc := 37) dX9_count_37 rfl 0 rfl ?_
      refine r_get C (pc := 38) dX9_count_38 gf_X9_count_251 0 rfl rfl ?_
      exact r_iret C (pc := 41) dX9_count_41 (hK (F 7) (wp_s h) rfl)
    · refine sw1 h (fun b1_2 h => ?_) (fun b1_2 h => ?_)
      · refine r_tableIn C (pc := 1) 42 dX9_count_1 2 (41) b1_2 (by decide) (by decide) (by decide +kernel) rfl ?_
        refine r_aload_n C (pc := 42) dX9_count_42 rfl 0 rfl ?_
        refine r_get C (pc := 43) dX9_count_43 gf_X9_count_258 0 rfl rfl ?_
        exact r_iret C (pc := 46) dX9_count_46 (hK (F 10) (wp_s h) rfl)
      · refine sw1 h (fun b1_3 h => ?_) (fun b1_3 h => ?_)
        · refine r_tableIn C (pc := 1) 47 dX9_count_1 3 (46) b1_3 (by decide) (by decide) (by decide +kernel) rfl ?_
          refine r_aload_n C (pc := 47) dX9_count_47 rfl 0 rfl ?_
          refine r_get C (pc := 48) dX9_count_48 gf_X9_count_261 0 rfl rfl ?_
          exact r_iret C (pc := 51) dX9_count_51 (hK (F 15) (wp_s h) rfl)
        · refine r_tableOut C (pc := 1) 52 dX9_count_1 (by have q := sw_out (a := p1) (lo := 0) 4 (by decide) (by decide) (by intro i hi; match i, hi with | 0, _ => exact b1_0 | 1, _ => exact b1_1 | 2, _ => exact b1_2 | 3, _ => exact b1_3); omega) rfl ?_
          refine r_bipush C (pc := 52) dX9_count_52 rfl ?_
          exact r_iret C (pc := 54) dX9_count_54 (hK (-2) (wp_s h) rfl)
theorem c_X9_count (l : Launch) (G : gG) (q : Nat → Nat) (F : Nat → Int) (p1 : Int) (r : Int) (hf : f_X9_count p1 (F 4) (F 7) (F 10) (F 15) = some r) : CTi l yX9_count wsX9_count rm_X9_count G (w_X9_count G q F) [.ref (q 35), .int (jz p1)] (jz r) (w_X9_count G q F) := CTi_of (by decide) rfl rfl (Nat.le_of_ble_eq_true rfl) (fun g C hG hl hF => by
    subst hG
    subst hl
    exact k_X9_count C q F p1 (fun x => x = r) (fun r' e => by cases e; exact hF) ⟨_, hf, rfl⟩)

-- TightHullsModel.tape(III)I
def f_X9_tape (p1 : Int) (p2 : Int) (p3 : Int) (c_this_sort : Nat → Int) (c_this_size : Nat → Int) (c_this_cell : Nat → Int64) : Option (Int × (Nat → Int) × (Nat → Int) × (Nat → Int64)) := bd1 (f_X9_isTape p1) (fun r1 => if eqI r1 0 = true then (some ((-1), c_this_sort, c_this_size, c_this_cell)) else (bd1 (f_X9_in p2 (-1) 4) (fun r12 => jn (some ((-2), c_this_sort, c_this_size, c_this_cell)) (fun (k28 : Option (Int × (Nat → Int) × (Nat → Int) × (Nat → Int64))) => if eqI r12 0 = true then k28 else (jn (jn (grd (iin p1 6) (jn (fun (s2_63 : Int) => grd (iin p1 6) (lq2 (fun (n67 : Int → (Nat → Int64) → Option (Int × (Nat → Int) × (Nat → Int) × (Nat → Int64))) (v4_67 : Int) (this_cell_67 : Nat → Int64) => grd (iin p1 6) (if ltI v4_67 ((up c_this_size (ix p1) s2_63) (ix p1)) = true then (lv ((0 : Int64)) (fun x90 => grd (iin ((60 * p1) + v4_67) 360) (n67 (v4_67 + 1) (up this_cell_67 (ix ((60 * p1) + v4_67)) x90)))) else (some (1, (up c_this_sort (ix p1) p2), (up c_this_size (ix p1) s2_63), this_cell_67)))) 300 0 c_this_cell)) (fun (k63 : Int → Option (Int × (Nat → Int) × (Nat → Int) × (Nat → Int64))) => if ltI p2 0 = true then (k63 0) else (k63 p3)))) (fun (k42 : Option (Int × (Nat → Int) × (Nat → Int) × (Nat → Int64))) => if ltI p2 0 = true then k42 else (if ltI p3 0 = true then (some ((-14), c_this_sort, c_this_size, c_this_cell)) else k42))) (fun (k31 : Option (Int × (Nat → Int) × (Nat → Int) × (Nat → Int64))) => if ltI p2 0 = true then k31 else (if ltI 60 p3 = true then k28 else k31)))))))
abbrev rm_X9_tape : Room := { frames := 2, cells := 0, slots := 0, locals := 42 }
abbrev w_X9_tape (G : gG) (q : Nat → Nat) (F : Nat → Int) (c_this_sort : Nat → Int) (c_this_size : Nat → Int) (c_this_cell : Nat → Int64) : va_W := [((q 35), oX9 F q), ((q 16), aI G 6 c_this_sort), ((q 17), aI G 6 c_this_size), ((q 18), aJ G 360 c_this_cell)]
theorem hd_X9_tape : yX9_tape.cls = RX9 ∧ yX9_tape.cls ≠ "java/lang/invoke/MethodHandle" ∧ yX9_tape.cls ≠ "java/lang/invoke/VarHandle" ∧ (parseMethodDescriptor yX9_tape.desc).map (fun d => d.parameters.length) = some 3 := by decide +kernel
theorem in_X9_tape_X9 : ∀ w ∈ u_ws RX9 TX9 35, w ∈ wsX9_tape := fun w h => List.mem_cons_of_mem _ (List.mem_append_right _ (h))
theorem gf_X9_tape_49 : GF wsX9_tape RX9 49 8 16 := ⟨RX9, TX9, 35, rfl, in_X9_tape_X9, by decide, List.mem_of_getElem? (i := 1) rfl⟩
theorem gf_X9_tape_52 : GF wsX9_tape RX9 52 8 17 := ⟨RX9, TX9, 35, rfl, in_X9_tape_X9, by decide, List.mem_of_getElem? (i := 2) rfl⟩
theorem gf_X9_tape_55 : GF wsX9_tape RX9 55 8 18 := ⟨RX9, TX9, 35, rfl, in_X9_tape_X9, by decide, List.mem_of_getElem? (i := 3) rfl⟩
set_option maxRecDepth 100000 in
set_option maxHeartbeats 4000000 in
theorem k_X9_tape {g : XC} (C : XOk g cX9_tape RX9 wsX9_tape rm_X9_tape 5) (q : Nat → Nat) (F : Nat → Int) (c_this_sort : Nat → Int) (c_this_size : Nat → Int) (c_this_cell : Nat → Int64) (p1 : Int) (p2 : Int) (p3 : Int) (K : (Int × (Nat → Int) × (Nat → Int) × (Nat → Int64)) → Prop) (hK : ∀ (r : Int) (o0 : Nat → Int) (o1 : Nat → Int) (o2 : Nat → Int64), K (r, o0, o1, o2) → (narrow .int (.int (jz r)) = .int (jz r) → FinI g 0 0 (w_X9_tape (xG g) q F o0 o1 o2) (jz r))) (h : wp (f_X9_tape p1 p2 p3 c_this_sort c_this_size c_this_cell) K) : WW g 0 0 (w_X9_tape (xG g) q F c_this_sort c_this_size c_this_cell) 0 [(0, .ref (q 35)), (1, .int (jz p1)), (2, .int (jz p2)), (3, .int (jz p3))] [] := by
  unfold f_X9_tape at h
  refine r_iload_n C (pc := 0) dX9_tape_0 rfl 1 rfl ?_
  obtain ⟨r1, e1, h⟩ := wp_b1 h
  refine b_cSi C (pc := 1) dX9_tape_1 (c_X9_isTape (xl g) (xG g) p1 r1 e1) rfl gX9_tape_X9_isTape ⟨rfl, rfl⟩ 1 hd_X9_isTape ⟨Nat.le_of_ble_eq_true rfl, Nat.le_of_ble_eq_true rfl⟩ rfl [] rfl (srt_nd 0 rfl) (ws' := w_X9_tape (xG g) q F c_this_sort c_this_size c_this_cell) (Put.m rfl rfl rfl) rfl (rest := []) rfl (Nat.le_of_ble_eq_true rfl) ⟨Nat.zero_le _, Nat.zero_le _⟩ ?_
  refine r_if_ne C (pc := 4) 9 dX9_tape_4 rfl h (fun c4 h => ?_) (fun c4 h => ?_)
  · refine r_iload_n C (pc := 9) dX9_tape_9 rfl 2 rfl ?_
    refine r_iconst C (pc := 10) dX9_tape_10 ?_
    refine r_iconst C (pc := 11) dX9_tape_11 ?_
    obtain ⟨r12, e12, h⟩ := wp_b1 h
    refine b_cSi C (pc := 12) dX9_tape_12 (c_X9_in (xl g) (xG g) p2 (-1) 4 r12 e12) rfl gX9_tape_X9_in ⟨rfl, rfl⟩ 3 hd_X9_in ⟨Nat.le_of_ble_eq_true rfl, Nat.le_of_ble_eq_true rfl⟩ rfl [] rfl (srt_nd 0 rfl) (ws' := w_X9_tape (xG g) q F c_this_sort c_this_size c_this_cell) (Put.m rfl rfl rfl) rfl (rest := []) rfl (Nat.le_of_ble_eq_true rfl) ⟨Nat.zero_le _, Nat.zero_le _⟩ ?_
    refine jn_e (fun (k28 : Option (Int × (Nat → Int) × (Nat → Int) × (Nat → Int64))) => wp (k28) K → WW g 0 0 (w_X9_tape (xG g) q F c_this_sort c_this_size c_this_cell) 28 [] []) h (fun h => ?_) (fun k28 hk28 h => ?_)
    · refine r_bipush C (pc := 28) dX9_tape_28 rfl ?_
      exact r_iret C (pc := 30) dX9_tape_30 (hK (-2) c_this_sort c_this_size c_this_cell (wp_s h) rfl)
    · refine r_if_eq C (pc := 15) 28 dX9_tape_15 rfl h (fun c15 h => ?_) (fun c15 h => ?_)
      · refine r_sub [] rfl ?_
        exact hk28 h
      · refine r_iload_n C (pc := 18) dX9_tape_18 rfl 2 rfl ?_
        refine jn_e (fun (k31 : Option (Int × (Nat → Int) × (Nat → Int) × (Nat → Int64))) => wp (k31) K → WW g 0 0 (w_X9_tape (xG g) q F c_this_sort c_this_size c_this_cell) 31 [(0, .ref (q 35)), (1, .int (jz p1)), (2, .int (jz p2)), (3, .int (jz p3))] []) h (fun h => ?_) (fun k31 hk31 h => ?_)
        · refine r_iload_n C (pc := 31) dX9_tape_31 rfl 2 rfl ?_
          refine jn_e (fun (k42 : Option (Int × (Nat → Int) × (Nat → Int) × (Nat → Int64))) => wp (k42) K → WW g 0 0 (w_X9_tape (xG g) q F c_this_sort c_this_size c_this_cell) 42 [(0, .ref (q 35)), (1, .int (jz p1)), (2, .int (jz p2)), (3, .int (jz p3))] []) h (fun h => ?_) (fun k42 hk42 h => ?_)
          · refine r_aload_n C (pc := 42) dX9_tape_42 rfl 0 rfl ?_
            refine r_get C (pc := 43) dX9_tape_43 gf_X9_tape_49 0 rfl rfl ?_
            refine r_iload_n C (pc := 46) dX9_tape_46 rfl 1 rfl ?_
            refine r_iload_n C (pc := 47) dX9_tape_47 rfl 2 rfl ?_
            refine r_iast C (pc := 48) dX9_tape_48 h 1 rfl (ws' := w_X9_tape (xG g) q F (up c_this_sort (ix p1) p2) c_this_size c_this_cell) rfl (fun h => ?_)
            refine r_aload_n C (pc := 49) dX9_tape_49 rfl 0 rfl ?_
            refine r_get C (pc := 50) dX9_tape_50 gf_X9_tape_52 0 rfl rfl ?_
            refine r_iload_n C (pc := 53) dX9_tape_53 rfl 1 rfl ?_
            refine r_iload_n C (pc := 54) dX9_tape_54 rfl 2 rfl ?_
            refine jn_e (fun (k63 : Int → Option (Int × (Nat → Int) × (Nat → Int) × (Nat → Int64))) => ∀ (s2_63 : Int), wp (k63 s2_63) K → WW g 0 0 (w_X9_tape (xG g) q F (up c_this_sort (ix p1) p2) c_this_size c_this_cell) 63 [(0, .ref (q 35)), (1, .int (jz p1))] [.int (jz s2_63), .int (jz p1), .ref (q 17)]) h (fun s2_63 h => ?_) (fun k63 hk63 h => ?_)
            · refine r_iast C (pc := 63) dX9_tape_63 h 2 rfl (ws' := w_X9_tape (xG g) q F (up c_this_sort (ix p1) p2) (up c_this_size (ix p1) s2_63) c_this_cell) rfl (fun h => ?_)
              refine r_iconst C (pc := 64) dX9_tape_64 ?_
              refine r_istore C (pc := 65) dX9_tape_65 (by decide) (L' := [(0, .ref (q 35)), (1, .int (jz p1)), (4, .int (jz 0))]) rfl ?_
              refine lq2_e (fun (v4_67 : Int) (this_cell_67 : Nat → Int64) => WW g 0 0 (w_X9_tape (xG g) q F (up c_this_sort (ix p1) p2) (up c_this_size (ix p1) s2_63) this_cell_67) 67 [(0, .ref (q 35)), (1, .int (jz p1)), (4, .int (jz v4_67))] []) h (fun n67 hn67 v4_67 this_cell_67 h => ?_)
              refine r_iload C (pc := 67) dX9_tape_67 2 rfl ?_
              refine r_aload_n C (pc := 69) dX9_tape_69 rfl 0 rfl ?_
              refine r_get C (pc := 70) dX9_tape_70 gf_X9_tape_52 0 rfl rfl ?_
              refine r_iload_n C (pc := 73) dX9_tape_73 rfl 1 rfl ?_
              refine r_iald C (pc := 74) dX9_tape_74 h 2 rfl (fun h => ?_)
              refine r_icmp_ge C (pc := 75) 97 dX9_tape_75 rfl h (fun c75 h => ?_) (fun c75 h => ?_)
              · refine r_iconst C (pc := 97) dX9_tape_97 ?_
                exact r_iret C (pc := 98) dX9_tape_98 (hK 1 (up c_this_sort (ix p1) p2) (up c_this_size (ix p1) s2_63) this_cell_67 (wp_s h) rfl)
              · refine r_aload_n C (pc := 78) dX9_tape_78 rfl 0 rfl ?_
                refine r_get C (pc := 79) dX9_tape_79 gf_X9_tape_55 0 rfl rfl ?_
                refine r_bipush C (pc := 82) dX9_tape_82 rfl ?_
                refine r_iload_n C (pc := 84) dX9_tape_84 rfl 1 rfl ?_
                refine r_imul C (pc := 85) dX9_tape_85 ?_
                refine r_iload C (pc := 86) dX9_tape_86 2 rfl ?_
                refine r_iadd C (pc := 88) dX9_tape_88 ?_
                refine r_lconst C (pc := 89) dX9_tape_89 rfl ?_
                refine r_letl h (fun x90 h => ?_)
                refine r_last C (pc := 90) dX9_tape_90 h 3 rfl (ws' := w_X9_tape (xG g) q F (up c_this_sort (ix p1) p2) (up c_this_size (ix p1) s2_63) (up this_cell_67 (ix ((60 * p1) + v4_67)) x90)) rfl (fun h => ?_)
                refine r_iinc C (pc := 91) dX9_tape_91 2 rfl (by decide) (L' := [(0, .ref (q 35)), (1, .int (jz p1)), (4, .int (jz (v4_67 + 1)))]) rfl ?_
                refine r_goto C (pc := 94) 67 dX9_tape_94 rfl ?_
                exact hn67 (v4_67 + 1) (up this_cell_67 (ix ((60 * p1) + v4_67)) x90) h
            · refine r_if_ge C (pc := 55) 62 dX9_tape_55 rfl h (fun c55 h => ?_) (fun c55 h => ?_)
              · refine r_iload_n C (pc := 62) dX9_tape_62 rfl 3 rfl ?_
                refine r_sub [0, 1] rfl ?_
                exact hk63 p3 h
              · refine r_iconst C (pc := 58) dX9_tape_58 ?_
                refine r_goto C (pc := 59) 63 dX9_tape_59 rfl ?_
                refine r_sub [0, 1] rfl ?_
                exact hk63 0 h
          · refine r_if_lt C (pc := 32) 42 dX9_tape_32 rfl h (fun c32 h => ?_) (fun c32 h => ?_)
            · exact hk42 h
            · refine r_iload_n C (pc := 35) dX9_tape_35 rfl 3 rfl ?_
              refine r_if_ge C (pc := 36) 42 dX9_tape_36 rfl h (fun c36 h => ?_) (fun c36 h => ?_)
              · exact hk42 h
              · refine r_bipush C (pc := 39) dX9_tape_39 rfl ?_
                exact r_iret C (pc := 41) dX9_tape_41 (hK (-14) c_this_sort c_this_size c_this_cell (wp_s h) rfl)
        · refine r_if_lt C (pc := 19) 31 dX9_tape_19 rfl h (fun c19 h => ?_) (fun c19 h => ?_)
          · exact hk31 h
          · refine r_iload_n C (pc := 22) dX9_tape_22 rfl 3 rfl ?_
            refine r_bipush C (pc := 23) dX9_tape_23 rfl ?_
            refine r_icmp_le C (pc := 25) 31 dX9_tape_25 rfl h (fun c25 h => ?_) (fun c25 h => ?_)
            · exact hk31 h
            · refine r_sub [] rfl ?_
              exact hk28 h
  · refine r_iconst C (pc := 7) dX9_tape_7 ?_
    exact r_iret C (pc := 8) dX9_tape_8 (hK (-1) c_this_sort c_this_size c_this_cell (wp_s h) rfl)
theorem c_X9_tape (l : Launch) (G : gG) (q : Nat → Nat) (F : Nat → Int) (c_this_sort : Nat → Int) (c_this_size : Nat → Int) (c_this_cell : Nat → Int64) (p1 : Int) (p2 : Int) (p3 : Int) (r : Int) (o0 : Nat → Int) (o1 : Nat → Int) (o2 : Nat → Int64) (hf : f_X9_tape p1 p2 p3 c_this_sort c_this_size c_this_cell = some (r, o0, o1, o2)) : CTi l yX9_tape wsX9_tape rm_X9_tape G (w_X9_tape G q F c_this_sort c_this_size c_this_cell) [.ref (q 35), .int (jz p1), .int (jz p2), .int (jz p3)] (jz r) (w_X9_tape G q F o0 o1 o2) := CTi_of (by decide) rfl rfl (Nat.le_of_ble_eq_true rfl) (fun g C hG hl hF => by
    subst hG
    subst hl
    exact k_X9_tape C q F c_this_sort c_this_size c_this_cell p1 p2 p3 (fun x => x = (r, o0, o1, o2)) (fun r' o0' o1' o2' e => by cases e; exact hF) ⟨_, hf, rfl⟩)

-- TightHullsModel.lowest(IJ)J
def f_X9_lowest (p1 : Int) (p2 : Int64) : Option Int64 := if eqI p1 0 = true then (some (i2lI (byI (l2iI p2)))) else (if eqI p1 1 = true then (some (i2lI (shI (l2iI p2)))) else (if eqI p1 2 = true then (some (i2lI (l2iI p2))) else (if eqI p1 3 = true then (some p2) else (jn (fun (s0_59 : Int64) => some s0_59) (fun (k59 : Int64 → Option Int64) => if eqI (lcmI p2 (0 : Int64)) 0 = true then (k59 (0 : Int64)) else (k59 (1 : Int64)))))))
abbrev rm_X9_lowest : Room := { frames := 0, cells := 0, slots := 0, locals := 0 }
abbrev w_X9_lowest (G : gG)  : va_W := []
theorem hd_X9_lowest : yX9_lowest.cls ≠ "java/lang/invoke/MethodHandle" ∧ yX9_lowest.cls ≠ "java/lang/invoke/VarHandle" ∧ (parseMethodDescriptor yX9_lowest.desc).map (fun d => d.parameters.length) = some 2 := by decide +kernel
set_option maxRecDepth 100000 in
set_option maxHeartbeats 4000000 in
theorem k_X9_lowest {g : XC} (C : XOk g cX9_lowest RX9 wsX9_lowest rm_X9_lowest 3)  (p1 : Int) (p2 : Int64) (K : Int64 → Prop) (hK : ∀ (r : Int64), K r → FinL g 0 0 (w_X9_lowest (xG g)) r) (h : wp (f_X9_lowest p1 p2) K) : WW g 0 0 (w_X9_lowest (xG g)) 0 [(0, .int (jz p1)), (1, .long p2)] [] := by
  unfold f_X9_lowest at h
  refine r_iload_n C (pc := 0) dX9_lowest_0 rfl 0 rfl ?_
  refine sw1 h (fun b1_0 h => ?_) (fun b1_0 h => ?_)
  · refine r_tableIn C (pc := 1) 32 dX9_lowest_1 0 (31) b1_0 (by decide) (by decide) (by decide +kernel) rfl ?_
    refine r_lload_n C (pc := 32) dX9_lowest_32 rfl 1 rfl ?_
    refine r_l2i C (pc := 33) dX9_lowest_33 ?_
    refine r_i2b C (pc := 34) dX9_lowest_34 ?_
    refine r_i2l C (pc := 35) dX9_lowest_35 ?_
    exact r_lret C (pc := 36) dX9_lowest_36 (hK (i2lI (byI (l2iI p2))) (wp_s h))
  · refine sw1 h (fun b1_1 h => ?_) (fun b1_1 h => ?_)
    · refine r_tableIn C (pc := 1) 37 dX9_lowest_1 1 (36) b1_1 (by decide) (by decide) (by decide +kernel) rfl ?_
      refine r_lload_n C (pc := 37) dX9_lowest_37 rfl 1 rfl ?_
      refine r_l2i C (pc := 38) dX9_lowest_38 ?_
      refine r_i2s C (pc := 39) dX9_lowest_39 ?_
      refine r_i2l C (pc := 40) dX9_lowest_40 ?_
      exact r_lret C (pc := 41) dX9_lowest_41 (hK (i2lI (shI (l2iI p2))) (wp_s h))
    · refine sw1 h (fun b1_2 h => ?_) (fun b1_2 h => ?_)
      · refine r_tableIn C (pc := 1) 42 dX9_lowest_1 2 (41) b1_2 (by decide) (by decide) (by decide +kernel) rfl ?_
        refine r_lload_n C (pc := 42) dX9_lowest_42 rfl 1 rfl ?_
        refine r_l2i C (pc := 43) dX9_lowest_43 ?_
        refine r_i2l C (pc := 44) dX9_lowest_44 ?_
        exact r_lret C (pc := 45) dX9_lowest_45 (hK (i2lI (l2iI p2)) (wp_s h))
      · refine sw1 h (fun b1_3 h => ?_) (fun b1_3 h => ?_)
        · refine r_tableIn C (pc := 1) 46 dX9_lowest_1 3 (45) b1_3 (by decide) (by decide) (by decide +kernel) rfl ?_
          refine r_lload_n C (pc := 46) dX9_lowest_46 rfl 1 rfl ?_
          exact r_lret C (pc := 47) dX9_lowest_47 (hK p2 (wp_s h))
        · refine r_tableOut C (pc := 1) 48 dX9_lowest_1 (by have q := sw_out (a := p1) (lo := 0) 4 (by decide) (by decide) (by intro i hi; match i, hi with | 0, _ => exact b1_0 | 1, _ => exact b1_1 | 2, _ => exact b1_2 | 3, _ => exact b1_3); omega) rfl ?_
          refine r_lload_n C (pc := 48) dX9_lowest_48 rfl 1 rfl ?_
          refine r_lconst C (pc := 49) dX9_lowest_49 rfl ?_
          refine r_lcmp C (pc := 50) dX9_lowest_50 ?_
          refine jn_e (fun (k59 : Int64 → Option Int64) => ∀ (s0_59 : Int64), wp (k59 s0_59) K → WW g 0 0 (w_X9_lowest (xG g)) 59 [] [.long s0_59]) h (fun s0_59 h => ?_) (fun k59 hk59 h => ?_)
          · exact r_lret C (pc := 59) dX9_lowest_59 (hK s0_59 (wp_s h))
          · refine r_if_eq C (pc := 51) 58 dX9_lowest_51 rfl h (fun c51 h => ?_) (fun c51 h => ?_)
            · refine r_lconst C (pc := 58) dX9_lowest_58 rfl ?_
              refine r_sub [] rfl ?_
              exact hk59 (0 : Int64) h
            · refine r_lconst C (pc := 54) dX9_lowest_54 rfl ?_
              refine r_goto C (pc := 55) 59 dX9_lowest_55 rfl ?_
              refine r_sub [] rfl ?_
              exact hk59 (1 : Int64) h
theorem c_X9_lowest (l : Launch) (G : gG) (p1 : Int) (p2 : Int64) (r : Int64) (hf : f_X9_lowest p1 p2 = some r) : CTl l yX9_lowest wsX9_lowest rm_X9_lowest G (w_X9_lowest G) [.int (jz p1), .long p2] r (w_X9_lowest G) := CTl_of (by decide) rfl rfl (Nat.le_of_ble_eq_true rfl) (fun g C hG hl hF => by
    subst hG
    subst hl
    exact k_X9_lowest C p1 p2 (fun x => x = r) (fun r' e => by cases e; exact hF) ⟨_, hf, rfl⟩)

-- TightHullsModel.item(IIJ)I
def f_X9_item (p1 : Int) (p2 : Int) (p3 : Int64) (c_this_sort : Nat → Int) (c_this_size : Nat → Int) (c_this_cell : Nat → Int64) : Option (Int × (Nat → Int64)) := bd1 (f_X9_isTape p1) (fun r1 => if eqI r1 0 = true then (some ((-1), c_this_cell)) else (grd (iin p1 6) (if ltI (c_this_sort (ix p1)) 0 = true then (some ((-11), c_this_cell)) else (grd (iin p1 6) (bd1 (f_X9_in p2 0 ((c_this_size (ix p1)) - 1)) (fun r31 => if eqI r31 0 = true then (some ((-13), c_this_cell)) else (grd (iin p1 6) (bd1 (f_X9_lowest (c_this_sort (ix p1)) p3) (fun r57 => grd (iin ((60 * p1) + p2) 360) (some (1, (up c_this_cell (ix ((60 * p1) + p2)) r57))))))))))))
abbrev rm_X9_item : Room := { frames := 2, cells := 0, slots := 0, locals := 42 }
abbrev w_X9_item (G : gG) (q : Nat → Nat) (F : Nat → Int) (c_this_sort : Nat → Int) (c_this_size : Nat → Int) (c_this_cell : Nat → Int64) : va_W := [((q 35), oX9 F q), ((q 16), aI G 6 c_this_sort), ((q 17), aI G 6 c_this_size), ((q 18), aJ G 360 c_this_cell)]
theorem hd_X9_item : yX9_item.cls = RX9 ∧ yX9_item.cls ≠ "java/lang/invoke/MethodHandle" ∧ yX9_item.cls ≠ "java/lang/invoke/VarHandle" ∧ (parseMethodDescriptor yX9_item.desc).map (fun d => d.parameters.length) = some 3 := by decide +kernel
theorem in_X9_item_X9 : ∀ w ∈ u_ws RX9 TX9 35, w ∈ wsX9_item := fun w h => List.mem_cons_of_mem _ (List.mem_append_right _ (h))
theorem gf_X9_item_49 : GF wsX9_item RX9 49 8 16 := ⟨RX9, TX9, 35, rfl, in_X9_item_X9, by decide, List.mem_of_getElem? (i := 1) rfl⟩
theorem gf_X9_item_52 : GF wsX9_item RX9 52 8 17 := ⟨RX9, TX9, 35, rfl, in_X9_item_X9, by decide, List.mem_of_getElem? (i := 2) rfl⟩
theorem gf_X9_item_55 : GF wsX9_item RX9 55 8 18 := ⟨RX9, TX9, 35, rfl, in_X9_item_X9, by decide, List.mem_of_getElem? (i := 3) rfl⟩
set_option maxRecDepth 100000 in
set_option maxHeartbeats 4000000 in
theorem k_X9_item {g : XC} (C : XOk g cX9_item RX9 wsX9_item rm_X9_item 5) (q : Nat → Nat) (F : Nat → Int) (c_this_sort : Nat → Int) (c_this_size : Nat → Int) (c_this_cell : Nat → Int64) (p1 : Int) (p2 : Int) (p3 : Int64) (K : (Int × (Nat → Int64)) → Prop) (hK : ∀ (r : Int) (o0 : Nat → Int64), K (r, o0) → (narrow .int (.int (jz r)) = .int (jz r) → FinI g 0 0 (w_X9_item (xG g) q F c_this_sort c_this_size o0) (jz r))) (h : wp (f_X9_item p1 p2 p3 c_this_sort c_this_size c_this_cell) K) : WW g 0 0 (w_X9_item (xG g) q F c_this_sort c_this_size c_this_cell) 0 [(0, .ref (q 35)), (1, .int (jz p1)), (2, .int (jz p2)), (3, .long p3)] [] := by
  unfold f_X9_item at h
  refine r_iload_n C (pc := 0) dX9_item_0 rfl 1 rfl ?_
  obtain ⟨r1, e1, h⟩ := wp_b1 h
  refine b_cSi C (pc := 1) dX9_item_1 (c_X9_isTape (xl g) (xG g) p1 r1 e1) rfl gX9_item_X9_isTape ⟨rfl, rfl⟩ 1 hd_X9_isTape ⟨Nat.le_of_ble_eq_true rfl, Nat.le_of_ble_eq_true rfl⟩ rfl [] rfl (srt_nd 0 rfl) (ws' := w_X9_item (xG g) q F c_this_sort c_this_size c_this_cell) (Put.m rfl rfl rfl) rfl (rest := []) rfl (Nat.le_of_ble_eq_true rfl) ⟨Nat.zero_le _, Nat.zero_le _⟩ ?_
  refine r_if_ne C (pc := 4) 9 dX9_item_4 rfl h (fun c4 h => ?_) (fun c4 h => ?_)
  · refine r_aload_n C (pc := 9) dX9_item_9 rfl 0 rfl ?_
    refine r_get C (pc := 10) dX9_item_10 gf_X9_item_49 0 rfl rfl ?_
    refine r_iload_n C (pc := 13) dX9_item_13 rfl 1 rfl ?_
    refine r_iald C (pc := 14) dX9_item_14 h 1 rfl (fun h => ?_)
    refine r_if_ge C (pc := 15) 21 dX9_item_15 rfl h (fun c15 h => ?_) (fun c15 h => ?_)
    · refine r_iload_n C (pc := 21) dX9_item_21 rfl 2 rfl ?_
      refine r_iconst C (pc := 22) dX9_item_22 ?_
      refine r_aload_n C (pc := 23) dX9_item_23 rfl 0 rfl ?_
      refine r_get C (pc := 24) dX9_item_24 gf_X9_item_52 0 rfl rfl ?_
      refine r_iload_n C (pc := 27) dX9_item_27 rfl 1 rfl ?_
      refine r_iald C (pc := 28) dX9_item_28 h 2 rfl (fun h => ?_)
      refine r_iconst C (pc := 29) dX9_item_29 ?_
      refine r_isub C (pc := 30) dX9_item_30 ?_
      obtain ⟨r31, e31, h⟩ := wp_b1 h
      refine b_cSi C (pc := 31) dX9_item_31 (c_X9_in (xl g) (xG g) p2 0 ((c_this_size (ix p1)) - 1) r31 e31) rfl gX9_item_X9_in ⟨rfl, rfl⟩ 3 hd_X9_in ⟨Nat.le_of_ble_eq_true rfl, Nat.le_of_ble_eq_true rfl⟩ rfl [] rfl (srt_nd 0 rfl) (ws' := w_X9_item (xG g) q F c_this_sort c_this_size c_this_cell) (Put.m rfl rfl rfl) rfl (rest := []) rfl (Nat.le_of_ble_eq_true rfl) ⟨Nat.zero_le _, Nat.zero_le _⟩ ?_
      refine r_if_ne C (pc := 34) 40 dX9_item_34 rfl h (fun c34 h => ?_) (fun c34 h => ?_)
      · refine r_aload_n C (pc := 40) dX9_item_40 rfl 0 rfl ?_
        refine r_get C (pc := 41) dX9_item_41 gf_X9_item_55 0 rfl rfl ?_
        refine r_bipush C (pc := 44) dX9_item_44 rfl ?_
        refine r_iload_n C (pc := 46) dX9_item_46 rfl 1 rfl ?_
        refine r_imul C (pc := 47) dX9_item_47 ?_
        refine r_iload_n C (pc := 48) dX9_item_48 rfl 2 rfl ?_
        refine r_iadd C (pc := 49) dX9_item_49 ?_
        refine r_aload_n C (pc := 50) dX9_item_50 rfl 0 rfl ?_
        refine r_get C (pc := 51) dX9_item_51 gf_X9_item_49 0 rfl rfl ?_
        refine r_iload_n C (pc := 54) dX9_item_54 rfl 1 rfl ?_
        refine r_iald C (pc := 55) dX9_item_55 h 1 rfl (fun h => ?_)
        refine r_lload_n C (pc := 56) dX9_item_56 rfl 3 rfl ?_
        obtain ⟨r57, e57, h⟩ := wp_b1 h
        refine b_cSl C (pc := 57) dX9_item_57 (c_X9_lowest (xl g) (xG g) (c_this_sort (ix p1)) p3 r57 e57) rfl gX9_item_X9_lowest ⟨rfl, rfl⟩ 2 hd_X9_lowest ⟨Nat.le_of_ble_eq_true rfl, Nat.le_of_ble_eq_true rfl⟩ rfl [] rfl (srt_nd 0 rfl) (ws' := w_X9_item (xG g) q F c_this_sort c_this_size c_this_cell) (Put.m rfl rfl rfl) rfl (rest := [.int (jz ((60 * p1) + p2)), .ref (q 18)]) rfl (Nat.le_of_ble_eq_true rfl) ⟨Nat.zero_le _, Nat.zero_le _⟩ ?_
        refine r_last C (pc := 60) dX9_item_60 h 3 rfl (ws' := w_X9_item (xG g) q F c_this_sort c_this_size (up c_this_cell (ix ((60 * p1) + p2)) r57)) rfl (fun h => ?_)
        refine r_iconst C (pc := 61) dX9_item_61 ?_
        exact r_iret C (pc := 62) dX9_item_62 (hK 1 (up c_this_cell (ix ((60 * p1) + p2)) r57) (wp_s h) rfl)
      · refine r_bipush C (pc := 37) dX9_item_37 rfl ?_
        exact r_iret C (pc := 39) dX9_item_39 (hK (-13) c_this_cell (wp_s h) rfl)
    · refine r_bipush C (pc := 18) dX9_item_18 rfl ?_
      exact r_iret C (pc := 20) dX9_item_20 (hK (-11) c_this_cell (wp_s h) rfl)
  · refine r_iconst C (pc := 7) dX9_item_7 ?_
    exact r_iret C (pc := 8) dX9_item_8 (hK (-1) c_this_cell (wp_s h) rfl)
theorem c_X9_item (l : Launch) (G : gG) (q : Nat → Nat) (F : Nat → Int) (c_this_sort : Nat → Int) (c_this_size : Nat → Int) (c_this_cell : Nat → Int64) (p1 : Int) (p2 : Int) (p3 : Int64) (r : Int) (o0 : Nat → Int64) (hf : f_X9_item p1 p2 p3 c_this_sort c_this_size c_this_cell = some (r, o0)) : CTi l yX9_item wsX9_item rm_X9_item G (w_X9_item G q F c_this_sort c_this_size c_this_cell) [.ref (q 35), .int (jz p1), .int (jz p2), .long p3] (jz r) (w_X9_item G q F c_this_sort c_this_size o0) := CTi_of (by decide) rfl rfl (Nat.le_of_ble_eq_true rfl) (fun g C hG hl hF => by
    subst hG
    subst hl
    exact k_X9_item C q F c_this_sort c_this_size c_this_cell p1 p2 p3 (fun x => x = (r, o0)) (fun r' o0' e => by cases e; exact hF) ⟨_, hf, rfl⟩)

-- TightHullsModel.peek(II)J
def f_X9_peek (p1 : Int) (p2 : Int) (c_this_sort : Nat → Int) (c_this_size : Nat → Int) (c_this_cell : Nat → Int64) : Option Int64 := bd1 (f_X9_isTape p1) (fun r1 => jn (fun (s0_49 : Int64) => some s0_49) (fun (k49 : Int64 → Option Int64) => jn (k49 (-9223372036854775808 : Int64)) (fun (k46 : Option Int64) => if eqI r1 0 = true then k46 else (grd (iin p1 6) (if ltI (c_this_sort (ix p1)) 0 = true then k46 else (grd (iin p1 6) (bd1 (f_X9_in p2 0 ((c_this_size (ix p1)) - 1)) (fun r26 => if eqI r26 0 = true then k46 else (grd (iin ((60 * p1) + p2) 360) (k49 (c_this_cell (ix ((60 * p1) + p2)))))))))))))
abbrev rm_X9_peek : Room := { frames := 2, cells := 0, slots := 0, locals := 42 }
abbrev w_X9_peek (G : gG) (q : Nat → Nat) (F : Nat → Int) (c_this_sort : Nat → Int) (c_this_size : Nat → Int) (c_this_cell : Nat → Int64) : va_W := [((q 35), oX9 F q), ((q 16), aI G 6 c_this_sort), ((q 17), aI G 6 c_this_size), ((q 18), aJ G 360 c_this_cell)]
theorem hd_X9_peek : yX9_peek.cls = RX9 ∧ yX9_peek.cls ≠ "java/lang/invoke/MethodHandle" ∧ yX9_peek.cls ≠ "java/lang/invoke/VarHandle" ∧ (parseMethodDescriptor yX9_peek.desc).map (fun d => d.parameters.length) = some 2 := by decide +kernel
theorem mm_X9_peek_4 : Jvm.Cond.constantLong RX9 245 (-9223372036854775808) ∈ wsX9_peek := List.mem_of_getElem? (i := 4) rfl
theorem in_X9_peek_X9 : ∀ w ∈ u_ws RX9 TX9 35, w ∈ wsX9_peek := fun w h => List.mem_cons_of_mem _ (List.mem_append_right _ (h))
theorem gf_X9_peek_49 : GF wsX9_peek RX9 49 8 16 := ⟨RX9, TX9, 35, rfl, in_X9_peek_X9, by decide, List.mem_of_getElem? (i := 1) rfl⟩
theorem gf_X9_peek_52 : GF wsX9_peek RX9 52 8 17 := ⟨RX9, TX9, 35, rfl, in_X9_peek_X9, by decide, List.mem_of_getElem? (i := 2) rfl⟩
theorem gf_X9_peek_55 : GF wsX9_peek RX9 55 8 18 := ⟨RX9, TX9, 35, rfl, in_X9_peek_X9, by decide, List.mem_of_getElem? (i := 3) rfl⟩
set_option maxRecDepth 100000 in
set_option maxHeartbeats 4000000 in
theorem k_X9_peek {g : XC} (C : XOk g cX9_peek RX9 wsX9_peek rm_X9_peek 3) (q : Nat → Nat) (F : Nat → Int) (c_this_sort : Nat → Int) (c_this_size : Nat → Int) (c_this_cell : Nat → Int64) (p1 : Int) (p2 : Int) (K : Int64 → Prop) (hK : ∀ (r : Int64), K r → FinL g 0 0 (w_X9_peek (xG g) q F c_this_sort c_this_size c_this_cell) r) (h : wp (f_X9_peek p1 p2 c_this_sort c_this_size c_this_cell) K) : WW g 0 0 (w_X9_peek (xG g) q F c_this_sort c_this_size c_this_cell) 0 [(0, .ref (q 35)), (1, .int (jz p1)), (2, .int (jz p2))] [] := by
  unfold f_X9_peek at h
  refine r_iload_n C (pc := 0) dX9_peek_0 rfl 1 rfl ?_
  obtain ⟨r1, e1, h⟩ := wp_b1 h
  refine b_cSi C (pc := 1) dX9_peek_1 (c_X9_isTape (xl g) (xG g) p1 r1 e1) rfl gX9_peek_X9_isTape ⟨rfl, rfl⟩ 1 hd_X9_isTape ⟨Nat.le_of_ble_eq_true rfl, Nat.le_of_ble_eq_true rfl⟩ rfl [] rfl (srt_nd 0 rfl) (ws' := w_X9_peek (xG g) q F c_this_sort c_this_size c_this_cell) (Put.m rfl rfl rfl) rfl (rest := []) rfl (Nat.le_of_ble_eq_true rfl) ⟨Nat.zero_le _, Nat.zero_le _⟩ ?_
  refine jn_e (fun (k49 : Int64 → Option Int64) => ∀ (s0_49 : Int64), wp (k49 s0_49) K → WW g 0 0 (w_X9_peek (xG g) q F c_this_sort c_this_size c_this_cell) 49 [] [.long s0_49]) h (fun s0_49 h => ?_) (fun k49 hk49 h => ?_)
  · exact r_lret C (pc := 49) dX9_peek_49 (hK s0_49 (wp_s h))
  · refine jn_e (fun (k46 : Option Int64) => wp (k46) K → WW g 0 0 (w_X9_peek (xG g) q F c_this_sort c_this_size c_this_cell) 46 [] []) h (fun h => ?_) (fun k46 hk46 h => ?_)
    · refine r_ldc2 C (pc := 46) dX9_peek_46 mm_X9_peek_4 ?_
      exact hk49 (-9223372036854775808 : Int64) h
    · refine r_if_eq C (pc := 4) 46 dX9_peek_4 rfl h (fun c4 h => ?_) (fun c4 h => ?_)
      · refine r_sub [] rfl ?_
        exact hk46 h
      · refine r_aload_n C (pc := 7) dX9_peek_7 rfl 0 rfl ?_
        refine r_get C (pc := 8) dX9_peek_8 gf_X9_peek_49 0 rfl rfl ?_
        refine r_iload_n C (pc := 11) dX9_peek_11 rfl 1 rfl ?_
        refine r_iald C (pc := 12) dX9_peek_12 h 1 rfl (fun h => ?_)
        refine r_if_lt C (pc := 13) 46 dX9_peek_13 rfl h (fun c13 h => ?_) (fun c13 h => ?_)
        · refine r_sub [] rfl ?_
          exact hk46 h
        · refine r_iload_n C (pc := 16) dX9_peek_16 rfl 2 rfl ?_
          refine r_iconst C (pc := 17) dX9_peek_17 ?_
          refine r_aload_n C (pc := 18) dX9_peek_18 rfl 0 rfl ?_
          refine r_get C (pc := 19) dX9_peek_19 gf_X9_peek_52 0 rfl rfl ?_
          refine r_iload_n C (pc := 22) dX9_peek_22 rfl 1 rfl ?_
          refine r_iald C (pc := 23) dX9_peek_23 h 2 rfl (fun h => ?_)
          refine r_iconst C (pc := 24) dX9_peek_24 ?_
          refine r_isub C (pc := 25) dX9_peek_25 ?_
          obtain ⟨r26, e26, h⟩ := wp_b1 h
          refine b_cSi C (pc := 26) dX9_peek_26 (c_X9_in (xl g) (xG g) p2 0 ((c_this_size (ix p1)) - 1) r26 e26) rfl gX9_peek_X9_in ⟨rfl, rfl⟩ 3 hd_X9_in ⟨Nat.le_of_ble_eq_true rfl, Nat.le_of_ble_eq_true rfl⟩ rfl [] rfl (srt_nd 0 rfl) (ws' := w_X9_peek (xG g) q F c_this_sort c_this_size c_this_cell) (Put.m rfl rfl rfl) rfl (rest := []) rfl (Nat.le_of_ble_eq_true rfl) ⟨Nat.zero_le _, Nat.zero_le _⟩ ?_
          refine r_if_eq C (pc := 29) 46 dX9_peek_29 rfl h (fun c29 h => ?_) (fun c29 h => ?_)
          · refine r_sub [] rfl ?_
            exact hk46 h
          · refine r_aload_n C (pc := 32) dX9_peek_32 rfl 0 rfl ?_
            refine r_get C (pc := 33) dX9_peek_33 gf_X9_peek_55 0 rfl rfl ?_
            refine r_bipush C (pc := 36) dX9_peek_36 rfl ?_
            refine r_iload_n C (pc := 38) dX9_peek_38 rfl 1 rfl ?_
            refine r_imul C (pc := 39) dX9_peek_39 ?_
            refine r_iload_n C (pc := 40) dX9_peek_40 rfl 2 rfl ?_
            refine r_iadd C (pc := 41) dX9_peek_41 ?_
            refine r_lald C (pc := 42) dX9_peek_42 h 3 rfl (fun h => ?_)
            refine r_goto C (pc := 43) 49 dX9_peek_43 rfl ?_
            refine r_sub [] rfl ?_
            exact hk49 (c_this_cell (ix ((60 * p1) + p2))) h
theorem c_X9_peek (l : Launch) (G : gG) (q : Nat → Nat) (F : Nat → Int) (c_this_sort : Nat → Int) (c_this_size : Nat → Int) (c_this_cell : Nat → Int64) (p1 : Int) (p2 : Int) (r : Int64) (hf : f_X9_peek p1 p2 c_this_sort c_this_size c_this_cell = some r) : CTl l yX9_peek wsX9_peek rm_X9_peek G (w_X9_peek G q F c_this_sort c_this_size c_this_cell) [.ref (q 35), .int (jz p1), .int (jz p2)] r (w_X9_peek G q F c_this_sort c_this_size c_this_cell) := CTl_of (by decide) rfl rfl (Nat.le_of_ble_eq_true rfl) (fun g C hG hl hF => by
    subst hG
    subst hl
    exact k_X9_peek C q F c_this_sort c_this_size c_this_cell p1 p2 (fun x => x = r) (fun r' e => by cases e; exact hF) ⟨_, hf, rfl⟩)

-- TightHullsModel.shift(IIIII)I
def f_X9_shift (p1 : Int) (p2 : Int) (p3 : Int) (p4 : Int) (p5 : Int) (c_this_sort : Nat → Int) (c_this_size : Nat → Int) (c_this_cell : Nat → Int64) (c_this_between : Nat → Int64) : Option (Int × (Nat → Int64) × (Nat → Int64)) := bd1 (f_X9_isTape p1) (fun r1 => jn (some ((-1), c_this_cell, c_this_between)) (fun (k14 : Option (Int × (Nat → Int64) × (Nat → Int64))) => if eqI r1 0 = true then k14 else (bd1 (f_X9_isTape p3) (fun r8 => if eqI r8 0 = true then k14 else (grd (iin p1 6) (jn (some ((-11), c_this_cell, c_this_between)) (fun (k34 : Option (Int × (Nat → Int64) × (Nat → Int64))) => if ltI (c_this_sort (ix p1)) 0 = true then k34 else (grd (iin p3 6) (if ltI (c_this_sort (ix p3)) 0 = true then k34 else (grd (iin p1 6) (grd (iin p3 6) (if eqI (c_this_sort (ix p1)) (c_this_sort (ix p3)) = true then (jn (some ((-13), c_this_cell, c_this_between)) (fun (k104 : Option (Int × (Nat → Int64) × (Nat → Int64))) => if ltI p5 0 = true then k104 else (if ltI p2 0 = true then k104 else (if ltI p4 0 = true then k104 else (grd (iin p1 6) (if ltI 0 (lcmI ((i2lI p2) + (i2lI p5)) (i2lI (c_this_size (ix p1)))) = true then k104 else (grd (iin p3 6) (if ltI 0 (lcmI ((i2lI p4) + (i2lI p5)) (i2lI (c_this_size (ix p3)))) = true then k104 else (lq2 (fun (n110 : Int → (Nat → Int64) → Option (Int × (Nat → Int64) × (Nat → Int64))) (v6_110 : Int) (this_between_110 : Nat → Int64) => if ltI v6_110 p5 = true then (grd (iin (((60 * p1) + p2) + v6_110) 360) (lv ((c_this_cell (ix (((60 * p1) + p2) + v6_110)))) (fun x137 => grd (iin v6_110 60) (n110 (v6_110 + 1) (up this_between_110 (ix v6_110) x137))))) else (lq2 (fun (n147 : Int → (Nat → Int64) → Option (Int × (Nat → Int64) × (Nat → Int64))) (v6_147 : Int) (this_cell_147 : Nat → Int64) => if ltI v6_147 p5 = true then (grd (iin v6_147 60) (lv ((this_between_110 (ix v6_147))) (fun x175 => grd (iin (((60 * p3) + p4) + v6_147) 360) (n147 (v6_147 + 1) (up this_cell_147 (ix (((60 * p3) + p4) + v6_147)) x175))))) else (some (p5, this_cell_147, this_between_110))) 300 0 c_this_cell)) 300 0 c_this_between))))))))) else (some ((-12), c_this_cell, c_this_between))))))))))))))
abbrev rm_X9_shift : Room := { frames := 2, cells := 0, slots := 0, locals := 42 }
abbrev w_X9_shift (G : gG) (q : Nat → Nat) (F : Nat → Int) (c_this_sort : Nat → Int) (c_this_size : Nat → Int) (c_this_cell : Nat → Int64) (c_this_between : Nat → Int64) : va_W := [((q 35), oX9 F q), ((q 16), aI G 6 c_this_sort), ((q 17), aI G 6 c_this_size), ((q 18), aJ G 360 c_this_cell), ((q 19), aJ G 60 c_this_between)]
theorem hd_X9_shift : yX9_shift.cls = RX9 ∧ yX9_shift.cls ≠ "java/lang/invoke/MethodHandle" ∧ yX9_shift.cls ≠ "java/lang/invoke/VarHandle" ∧ (parseMethodDescriptor yX9_shift.desc).map (fun d => d.parameters.length) = some 5 := by decide +kernel
theorem in_X9_shift_X9 : ∀ w ∈ u_ws RX9 TX9 35, w ∈ wsX9_shift := fun w h => List.mem_cons_of_mem _ (List.mem_append_right _ (h))
theorem gf_X9_shift_49 : GF wsX9_shift RX9 49 8 16 := ⟨RX9, TX9, 35, rfl, in_X9_shift_X9, by decide, List.mem_of_getElem? (i := 1) rfl⟩
theorem gf_X9_shift_52 : GF wsX9_shift RX9 52 8 17 := ⟨RX9, TX9, 35, rfl, in_X9_shift_X9, by decide, List.mem_of_getElem? (i := 2) rfl⟩
theorem gf_X9_shift_55 : GF wsX9_shift RX9 55 8 18 := ⟨RX9, TX9, 35, rfl, in_X9_shift_X9, by decide, List.mem_of_getElem? (i := 4) rfl⟩
theorem gf_X9_shift_59 : GF wsX9_shift RX9 59 8 19 := ⟨RX9, TX9, 35, rfl, in_X9_shift_X9, by decide, List.mem_of_getElem? (i := 3) rfl⟩
set_option maxRecDepth 100000 in
set_option maxHeartbeats 4000000 in
theorem k_X9_shift {g : XC} (C : XOk g cX9_shift RX9 wsX9_shift rm_X9_shift 7) (q : Nat → Nat) (F : Nat → Int) (c_this_sort : Nat → Int) (c_this_size : Nat → Int) (c_this_cell : Nat → Int64) (c_this_between : Nat → Int64) (p1 : Int) (p2 : Int) (p3 : Int) (p4 : Int) (p5 : Int) (K : (Int × (Nat → Int64) × (Nat → Int64)) → Prop) (hK : ∀ (r : Int) (o0 : Nat → Int64) (o1 : Nat → Int64), K (r, o0, o1) → (narrow .int (.int (jz r)) = .int (jz r) → FinI g 0 0 (w_X9_shift (xG g) q F c_this_sort c_this_size o0 o1) (jz r))) (h : wp (f_X9_shift p1 p2 p3 p4 p5 c_this_sort c_this_size c_this_cell c_this_between) K) : WW g 0 0 (w_X9_shift (xG g) q F c_this_sort c_this_size c_this_cell c_this_between) 0 [(0, .ref (q 35)), (1, .int (jz p1)), (2, .int (jz p2)), (3, .int (jz p3)), (4, .int (jz p4)), (5, .int (jz p5))] [] := by
  unfold f_X9_shift at h
  refine r_iload_n C (pc := 0) dX9_shift_0 rfl 1 rfl ?_
  obtain ⟨r1, e1, h⟩ := wp_b1 h
  refine b_cSi C (pc := 1) dX9_shift_1 (c_X9_isTape (xl g) (xG g) p1 r1 e1) rfl gX9_shift_X9_isTape ⟨rfl, rfl⟩ 1 hd_X9_isTape ⟨Nat.le_of_ble_eq_true rfl, Nat.le_of_ble_eq_true rfl⟩ rfl [] rfl (srt_nd 0 rfl) (ws' := w_X9_shift (xG g) q F c_this_sort c_this_size c_this_cell c_this_between) (Put.m rfl rfl rfl) rfl (rest := []) rfl (Nat.le_of_ble_eq_true rfl) ⟨Nat.zero_le _, Nat.zero_le _⟩ ?_
  refine jn_e (fun (k14 : Option (Int × (Nat → Int64) × (Nat → Int64))) => wp (k14) K → WW g 0 0 (w_X9_shift (xG g) q F c_this_sort c_this_size c_this_cell c_this_between) 14 [] []) h (fun h => ?_) (fun k14 hk14 h => ?_)
  · refine r_iconst C (pc := 14) dX9_shift_14 ?_
    exact r_iret C (pc := 15) dX9_shift_15 (hK (-1) c_this_cell c_this_between (wp_s h) rfl)
  · refine r_if_eq C (pc := 4) 14 dX9_shift_4 rfl h (fun c4 h => ?_) (fun c4 h => ?_)
    · refine r_sub [] rfl ?_
      exact hk14 h
    · refine r_iload_n C (pc := 7) dX9_shift_7 rfl 3 rfl ?_
      obtain ⟨r8, e8, h⟩ := wp_b1 h
      refine b_cSi C (pc := 8) dX9_shift_8 (c_X9_isTape (xl g) (xG g) p3 r8 e8) rfl gX9_shift_X9_isTape ⟨rfl, rfl⟩ 1 hd_X9_isTape ⟨Nat.le_of_ble_eq_true rfl, Nat.le_of_ble_eq_true rfl⟩ rfl [] rfl (srt_nd 0 rfl) (ws' := w_X9_shift (xG g) q F c_this_sort c_this_size c_this_cell c_this_between) (Put.m rfl rfl rfl) rfl (rest := []) rfl (Nat.le_of_ble_eq_true rfl) ⟨Nat.zero_le _, Nat.zero_le _⟩ ?_
      refine r_if_ne C (pc := 11) 16 dX9_shift_11 rfl h (fun c11 h => ?_) (fun c11 h => ?_)
      · refine r_aload_n C (pc := 16) dX9_shift_16 rfl 0 rfl ?_
        refine r_get C (pc := 17) dX9_shift_17 gf_X9_shift_49 0 rfl rfl ?_
        refine r_iload_n C (pc := 20) dX9_shift_20 rfl 1 rfl ?_
        refine r_iald C (pc := 21) dX9_shift_21 h 1 rfl (fun h => ?_)
        refine jn_e (fun (k34 : Option (Int × (Nat → Int64) × (Nat → Int64))) => wp (k34) K → WW g 0 0 (w_X9_shift (xG g) q F c_this_sort c_this_size c_this_cell c_this_between) 34 [] []) h (fun h => ?_) (fun k34 hk34 h => ?_)
        · refine r_bipush C (pc := 34) dX9_shift_34 rfl ?_
          exact r_iret C (pc := 36) dX9_shift_36 (hK (-11) c_this_cell c_this_between (wp_s h) rfl)
        · refine r_if_lt C (pc := 22) 34 dX9_shift_22 rfl h (fun c22 h => ?_) (fun c22 h => ?_)
          · refine r_sub [] rfl ?_
            exact hk34 h
          · refine r_aload_n C (pc := 25) dX9_shift_25 rfl 0 rfl ?_
            refine r_get C (pc := 26) dX9_shift_26 gf_X9_shift_49 0 rfl rfl ?_
            refine r_iload_n C (pc := 29) dX9_shift_29 rfl 3 rfl ?_
            refine r_iald C (pc := 30) dX9_shift_30 h 1 rfl (fun h => ?_)
            refine r_if_ge C (pc := 31) 37 dX9_shift_31 rfl h (fun c31 h => ?_) (fun c31 h => ?_)
            · refine r_aload_n C (pc := 37) dX9_shift_37 rfl 0 rfl ?_
              refine r_get C (pc := 38) dX9_shift_38 gf_X9_shift_49 0 rfl rfl ?_
              refine r_iload_n C (pc := 41) dX9_shift_41 rfl 1 rfl ?_
              refine r_iald C (pc := 42) dX9_shift_42 h 1 rfl (fun h => ?_)
              refine r_aload_n C (pc := 43) dX9_shift_43 rfl 0 rfl ?_
              refine r_get C (pc := 44) dX9_shift_44 gf_X9_shift_49 0 rfl rfl ?_
              refine r_iload_n C (pc := 47) dX9_shift_47 rfl 3 rfl ?_
              refine r_iald C (pc := 48) dX9_shift_48 h 1 rfl (fun h => ?_)
              refine r_icmp_eq C (pc := 49) 55 dX9_shift_49 rfl h (fun c49 h => ?_) (fun c49 h => ?_)
              · refine r_iload C (pc := 55) dX9_shift_55 5 rfl ?_
                refine jn_e (fun (k104 : Option (Int × (Nat → Int64) × (Nat → Int64))) => wp (k104) K → WW g 0 0 (w_X9_shift (xG g) q F c_this_sort c_this_size c_this_cell c_this_between) 104 [] []) h (fun h => ?_) (fun k104 hk104 h => ?_)
                · refine r_bipush C (pc := 104) dX9_shift_104 rfl ?_
                  exact r_iret C (pc := 106) dX9_shift_106 (hK (-13) c_this_cell c_this_between (wp_s h) rfl)
                · refine r_if_lt C (pc := 57) 104 dX9_shift_57 rfl h (fun c57 h => ?_) (fun c57 h => ?_)
                  · refine r_sub [] rfl ?_
                    exact hk104 h
                  · refine r_iload_n C (pc := 60) dX9_shift_60 rfl 2 rfl ?_
                    refine r_if_lt C (pc := 61) 104 dX9_shift_61 rfl h (fun c61 h => ?_) (fun c61 h => ?_)
                    · refine r_sub [] rfl ?_
                      exact hk104 h
                    · refine r_iload C (pc := 64) dX9_shift_64 4 rfl ?_
                      refine r_if_lt C (pc := 66) 104 dX9_shift_66 rfl h (fun c66 h => ?_) (fun c66 h => ?_)
                      · refine r_sub [] rfl ?_
                        exact hk104 h
                      · refine r_iload_n C (pc := 69) dX9_shift_69 rfl 2 rfl ?_
                        refine r_i2l C (pc := 70) dX9_shift_70 ?_
                        refine r_iload C (pc := 71) dX9_shift_71 5 rfl ?_
                        refine r_i2l C (pc := 73) dX9_shift_73 ?_
                        refine r_ladd C (pc := 74) dX9_shift_74 ?_
                        refine r_aload_n C (pc := 75) dX9_shift_75 rfl 0 rfl ?_
                        refine r_get C (pc := 76) dX9_shift_76 gf_X9_shift_52 0 rfl rfl ?_
                        refine r_iload_n C (pc := 79) dX9_shift_79 rfl 1 rfl ?_
                        refine r_iald C (pc := 80) dX9_shift_80 h 2 rfl (fun h => ?_)
                        refine r_i2l C (pc := 81) dX9_shift_81 ?_
                        refine r_lcmp C (pc := 82) dX9_shift_82 ?_
                        refine r_if_gt C (pc := 83) 104 dX9_shift_83 rfl h (fun c83 h => ?_) (fun c83 h => ?_)
                        · refine r_sub [] rfl ?_
                          exact hk104 h
                        · refine r_iload C (pc := 86) dX9_shift_86 4 rfl ?_
                          refine r_i2l C (pc := 88) dX9_shift_88 ?_
                          refine r_iload C (pc := 89) dX9_shift_89 5 rfl ?_
                          refine r_i2l C (pc := 91) dX9_shift_91 ?_
                          refine r_ladd C (pc := 92) dX9_shift_92 ?_
                          refine r_aload_n C (pc := 93) dX9_shift_93 rfl 0 rfl ?_
                          refine r_get C (pc := 94) dX9_shift_94 gf_X9_shift_52 0 rfl rfl ?_
                          refine r_iload_n C (pc := 97) dX9_shift_97 rfl 3 rfl ?_
                          refine r_iald C (pc := 98) dX9_shift_98 h 2 rfl (fun h => ?_)
                          refine r_i2l C (pc := 99) dX9_shift_99 ?_
                          refine r_lcmp C (pc := 100) dX9_shift_100 ?_
                          refine r_if_le C (pc := 101) 107 dX9_shift_101 rfl h (fun c101 h => ?_) (fun c101 h => ?_)
                          · refine r_iconst C (pc := 107) dX9_shift_107 ?_
                            refine r_istore C (pc := 108) dX9_shift_108 (by decide) (L' := [(0, .ref (q 35)), (1, .int (jz p1)), (2, .int (jz p2)), (3, .int (jz p3)), (4, .int (jz p4)), (5, .int (jz p5)), (6, .int (jz 0))]) rfl ?_
                            refine lq2_e (fun (v6_110 : Int) (this_between_110 : Nat → Int64) => WW g 0 0 (w_X9_shift (xG g) q F c_this_sort c_this_size c_this_cell this_between_110) 110 [(0, .ref (q 35)), (1, .int (jz p1)), (2, .int (jz p2)), (3, .int (jz p3)), (4, .int (jz p4)), (5, .int (jz p5)), (6, .int (jz v6_110))] []) h (fun n110 hn110 v6_110 this_between_110 h => ?_)
                            refine r_iload C (pc := 110) dX9_shift_110 6 rfl ?_
                            refine r_iload C (pc := 112) dX9_shift_112 5 rfl ?_
                            refine r_icmp_ge C (pc := 114) 144 dX9_shift_114 rfl h (fun c114 h => ?_) (fun c114 h => ?_)
                            · refine r_iconst C (pc := 144) dX9_shift_144 ?_
                              refine r_istore C (pc := 145) dX9_shift_145 (by decide) (L' := [(0, .ref (q 35)), (1, .int (jz p1)), (2, .int (jz p2)), (3, .int (jz p3)), (4, .int (jz p4)), (5, .int (jz p5)), (6, .int (jz 0))]) rfl ?_
                              refine r_sub [0, 3, 4, 5, 6] rfl ?_
                              refine lq2_e (fun (v6_147 : Int) (this_cell_147 : Nat → Int64) => WW g 0 0 (w_X9_shift (xG g) q F c_this_sort c_this_size this_cell_147 this_between_110) 147 [(0, .ref (q 35)), (3, .int (jz p3)), (4, .int (jz p4)), (5, .int (jz p5)), (6, .int (jz v6_147))] []) h (fun n147 hn147 v6_147 this_cell_147 h => ?_)
                              refine r_iload C (pc := 147) dX9_shift_147 4 rfl ?_
                              refine r_iload C (pc := 149) dX9_shift_149 3 rfl ?_
                              refine r_icmp_ge C (pc := 151) 182 dX9_shift_151 rfl h (fun c151 h => ?_) (fun c151 h => ?_)
                              · refine r_iload C (pc := 182) dX9_shift_182 3 rfl ?_
                                exact r_iret C (pc := 184) dX9_shift_184 (hK p5 this_cell_147 this_between_110 (wp_s h) rfl)
                              · refine r_aload_n C (pc := 154) dX9_shift_154 rfl 0 rfl ?_
                                refine r_get C (pc := 155) dX9_shift_155 gf_X9_shift_55 0 rfl rfl ?_
                                refine r_bipush C (pc := 158) dX9_shift_158 rfl ?_
                                refine r_iload_n C (pc := 160) dX9_shift_160 rfl 1 rfl ?_
                                refine r_imul C (pc := 161) dX9_shift_161 ?_
                                refine r_iload C (pc := 162) dX9_shift_162 2 rfl ?_
                                refine r_iadd C (pc := 164) dX9_shift_164 ?_
                                refine r_iload C (pc := 165) dX9_shift_165 4 rfl ?_
                                refine r_iadd C (pc := 167) dX9_shift_167 ?_
                                refine r_aload_n C (pc := 168) dX9_shift_168 rfl 0 rfl ?_
                                refine r_get C (pc := 169) dX9_shift_169 gf_X9_shift_59 0 rfl rfl ?_
                                refine r_iload C (pc := 172) dX9_shift_172 4 rfl ?_
                                refine r_lald C (pc := 174) dX9_shift_174 h 4 rfl (fun h => ?_)
                                refine r_letl h (fun x175 h => ?_)
                                refine r_last C (pc := 175) dX9_shift_175 h 3 rfl (ws' := w_X9_shift (xG g) q F c_this_sort c_this_size (up this_cell_147 (ix (((60 * p3) + p4) + v6_147)) x175) this_between_110) rfl (fun h => ?_)
                                refine r_iinc C (pc := 176) dX9_shift_176 4 rfl (by decide) (L' := [(0, .ref (q 35)), (3, .int (jz p3)), (4, .int (jz p4)), (5, .int (jz p5)), (6, .int (jz (v6_147 + 1)))]) rfl ?_
                                refine r_goto C (pc := 179) 147 dX9_shift_179 rfl ?_
                                exact hn147 (v6_147 + 1) (up this_cell_147 (ix (((60 * p3) + p4) + v6_147)) x175) h
                            · refine r_aload_n C (pc := 117) dX9_shift_117 rfl 0 rfl ?_
                              refine r_get C (pc := 118) dX9_shift_118 gf_X9_shift_59 0 rfl rfl ?_
                              refine r_iload C (pc := 121) dX9_shift_121 6 rfl ?_
                              refine r_aload_n C (pc := 123) dX9_shift_123 rfl 0 rfl ?_
                              refine r_get C (pc := 124) dX9_shift_124 gf_X9_shift_55 0 rfl rfl ?_
                              refine r_bipush C (pc := 127) dX9_shift_127 rfl ?_
                              refine r_iload_n C (pc := 129) dX9_shift_129 rfl 1 rfl ?_
                              refine r_imul C (pc := 130) dX9_shift_130 ?_
                              refine r_iload_n C (pc := 131) dX9_shift_131 rfl 2 rfl ?_
                              refine r_iadd C (pc := 132) dX9_shift_132 ?_
                              refine r_iload C (pc := 133) dX9_shift_133 6 rfl ?_
                              refine r_iadd C (pc := 135) dX9_shift_135 ?_
                              refine r_lald C (pc := 136) dX9_shift_136 h 3 rfl (fun h => ?_)
                              refine r_letl h (fun x137 h => ?_)
                              refine r_last C (pc := 137) dX9_shift_137 h 4 rfl (ws' := w_X9_shift (xG g) q F c_this_sort c_this_size c_this_cell (up this_between_110 (ix v6_110) x137)) rfl (fun h => ?_)
                              refine r_iinc C (pc := 138) dX9_shift_138 6 rfl (by decide) (L' := [(0, .ref (q 35)), (1, .int (jz p1)), (2, .int (jz p2)), (3, .int (jz p3)), (4, .int (jz p4)), (5, .int (jz p5)), (6, .int (jz (v6_110 + 1)))]) rfl ?_
                              refine r_goto C (pc := 141) 110 dX9_shift_141 rfl ?_
                              exact hn110 (v6_110 + 1) (up this_between_110 (ix v6_110) x137) h
                          · refine r_sub [] rfl ?_
                            exact hk104 h
              · refine r_bipush C (pc := 52) dX9_shift_52 rfl ?_
                exact r_iret C (pc := 54) dX9_shift_54 (hK (-12) c_this_cell c_this_between (wp_s h) rfl)
            · refine r_sub [] rfl ?_
              exact hk34 h
      · refine r_sub [] rfl ?_
        exact hk14 h
theorem c_X9_shift (l : Launch) (G : gG) (q : Nat → Nat) (F : Nat → Int) (c_this_sort : Nat → Int) (c_this_size : Nat → Int) (c_this_cell : Nat → Int64) (c_this_between : Nat → Int64) (p1 : Int) (p2 : Int) (p3 : Int) (p4 : Int) (p5 : Int) (r : Int) (o0 : Nat → Int64) (o1 : Nat → Int64) (hf : f_X9_shift p1 p2 p3 p4 p5 c_this_sort c_this_size c_this_cell c_this_between = some (r, o0, o1)) : CTi l yX9_shift wsX9_shift rm_X9_shift G (w_X9_shift G q F c_this_sort c_this_size c_this_cell c_this_between) [.ref (q 35), .int (jz p1), .int (jz p2), .int (jz p3), .int (jz p4), .int (jz p5)] (jz r) (w_X9_shift G q F c_this_sort c_this_size o0 o1) := CTi_of (by decide) rfl rfl (Nat.le_of_ble_eq_true rfl) (fun g C hG hl hF => by
    subst hG
    subst hl
    exact k_X9_shift C q F c_this_sort c_this_size c_this_cell c_this_between p1 p2 p3 p4 p5 (fun x => x = (r, o0, o1)) (fun r' o0' o1' e => by cases e; exact hF) ⟨_, hf, rfl⟩)
