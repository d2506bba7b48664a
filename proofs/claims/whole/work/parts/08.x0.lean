-- TightHulls$Hull.lookFrom(I)V
def f_X0_lookFrom (p1 : Int) (c_this_basis_size : Int) (c_this_basis_gaps : Nat → Int) (c_this_numbers : Nat → Int) : Option (Nat → Int) := lq2 (fun (n2 : Int → (Nat → Int) → Option (Nat → Int)) (v2_2 : Int) (this_numbers_2 : Nat → Int) => if ltI v2_2 c_this_basis_size = true then (bd1 (f_X4_gap p1 v2_2 c_this_basis_size c_this_basis_gaps) (fun r25 => lv ((2 * r25)) (fun x29 => grd (iin v2_2 5) (n2 (v2_2 + 1) (up this_numbers_2 (ix v2_2) x29))))) else (some this_numbers_2)) 300 0 c_this_numbers
abbrev rm_X0_lookFrom : Room := { frames := 1, cells := 0, slots := 0, locals := 23 }
abbrev w_X0_lookFrom (G : gG) (a_this : Nat) (a_this_basis : Nat) (a_this_numbers : Nat) (a_this_keys : Nat) (a_this_twos : Nat) (a_this_basis_gaps : Nat) (c_this_followed : Int) (c_this_there : Int) (c_this_held : Int) (c_this_basis_size : Int) (c_this_basis_gaps : Nat → Int) (c_this_numbers : Nat → Int) : va_W := [(a_this, .inr (0, [.ref a_this_basis, .int (jz c_this_followed), .ref a_this_numbers, .ref a_this_keys, .ref a_this_twos, .int (jz c_this_there), .int (jz c_this_held)])), (a_this_basis, .inr (4, [.int (jz c_this_basis_size), .ref a_this_basis_gaps])), (a_this_basis_gaps, aI G 25 c_this_basis_gaps), (a_this_numbers, aI G 5 c_this_numbers)]
theorem hd_X0_lookFrom : yX0_lookFrom.cls = RX0 ∧ yX0_lookFrom.cls ≠ "java/lang/invoke/MethodHandle" ∧ yX0_lookFrom.cls ≠ "java/lang/invoke/VarHandle" ∧ (parseMethodDescriptor yX0_lookFrom.desc).map (fun d => d.parameters.length) = some 1 := by decide +kernel
theorem in_X0_lookFrom_X0 : ∀ w ∈ u_ws RX0 TX0 7, w ∈ wsX0_lookFrom := fun w h => List.mem_cons_of_mem _ (List.mem_append_left _ (List.mem_append_right _ (h)))
theorem gf_X0_lookFrom_12 : GF wsX0_lookFrom RX0 12 0 0 := ⟨RX0, TX0, 7, rfl, in_X0_lookFrom_X0, by decide, List.mem_of_getElem? (i := 1) rfl⟩
theorem in_X0_lookFrom_X4 : ∀ w ∈ u_ws RX4 TX4 2, w ∈ wsX0_lookFrom := fun w h => List.mem_cons_of_mem _ (List.mem_append_right _ (h))
theorem gf_X0_lookFrom_64 : GF wsX0_lookFrom RX0 64 4 0 := ⟨RX4, TX4, 2, rfl, in_X0_lookFrom_X4, by decide, List.mem_of_getElem? (i := 2) rfl⟩
theorem gf_X0_lookFrom_22 : GF wsX0_lookFrom RX0 22 0 2 := ⟨RX0, TX0, 7, rfl, in_X0_lookFrom_X0, by decide, List.mem_of_getElem? (i := 3) rfl⟩
set_option maxRecDepth 100000 in
set_option maxHeartbeats 4000000 in
theorem k_X0_lookFrom {g : XC} (C : XOk g cX0_lookFrom RX0 wsX0_lookFrom rm_X0_lookFrom 3) (a_this : Nat) (a_this_basis : Nat) (a_this_numbers : Nat) (a_this_keys : Nat) (a_this_twos : Nat) (a_this_basis_gaps : Nat) (c_this_followed : Int) (c_this_there : Int) (c_this_held : Int) (c_this_basis_size : Int) (c_this_basis_gaps : Nat → Int) (c_this_numbers : Nat → Int) (p1 : Int) (K : (Nat → Int) → Prop) (hK : ∀ (o0 : Nat → Int), K o0 → FinV g 0 0 (w_X0_lookFrom (xG g) a_this a_this_basis a_this_numbers a_this_keys a_this_twos a_this_basis_gaps c_this_followed c_this_there c_this_held c_this_basis_size c_this_basis_gaps o0)) (h : wp (f_X0_lookFrom p1 c_this_basis_size c_this_basis_gaps c_this_numbers) K) : WW g 0 0 (w_X0_lookFrom (xG g) a_this a_this_basis a_this_numbers a_this_keys a_this_twos a_this_basis_gaps c_this_followed c_this_there c_this_held c_this_basis_size c_this_basis_gaps c_this_numbers) 0 [(0, .ref a_this), (1, .int (jz p1))] [] := by
  unfold f_X0_lookFrom at h
  refine r_iconst C (pc := 0) dX0_lookFrom_0 ?_
  refine r_istore_n C (pc := 1) dX0_lookFrom_1 rfl (by decide) (L' := [(0, .ref a_this), (1, .int (jz p1)), (2, .int (jz 0))]) rfl ?_
  refine lq2_e (fun (v2_2 : Int) (this_numbers_2 : Nat → Int) => WW g 0 0 (w_X0_lookFrom (xG g) a_this a_this_basis a_this_numbers a_this_keys a_this_twos a_this_basis_gaps c_this_followed c_this_there c_this_held c_this_basis_size c_this_basis_gaps this_numbers_2) 2 [(0, .ref a_this), (1, .int (jz p1)), (2, .int (jz v2_2))] []) h (fun n2 hn2 v2_2 this_numbers_2 h => ?_)
  refine r_iload_n C (pc := 2) dX0_lookFrom_2 rfl 2 rfl ?_
  refine r_aload_n C (pc := 3) dX0_lookFrom_3 rfl 0 rfl ?_
  refine r_get C (pc := 4) dX0_lookFrom_4 gf_X0_lookFrom_12 0 rfl rfl ?_
  refine r_get C (pc := 7) dX0_lookFrom_7 gf_X0_lookFrom_64 1 rfl rfl ?_
  refine r_icmp_ge C (pc := 10) 36 dX0_lookFrom_10 rfl h (fun c10 h => ?_) (fun c10 h => ?_)
  · exact r_vret C (pc := 36) dX0_lookFrom_36 (hK this_numbers_2 (wp_s h))
  · refine r_aload_n C (pc := 13) dX0_lookFrom_13 rfl 0 rfl ?_
    refine r_get C (pc := 14) dX0_lookFrom_14 gf_X0_lookFrom_22 0 rfl rfl ?_
    refine r_iload_n C (pc := 17) dX0_lookFrom_17 rfl 2 rfl ?_
    refine r_iconst C (pc := 18) dX0_lookFrom_18 ?_
    refine r_aload_n C (pc := 19) dX0_lookFrom_19 rfl 0 rfl ?_
    refine r_get C (pc := 20) dX0_lookFrom_20 gf_X0_lookFrom_12 0 rfl rfl ?_
    refine r_iload_n C (pc := 23) dX0_lookFrom_23 rfl 1 rfl ?_
    refine r_iload_n C (pc := 24) dX0_lookFrom_24 rfl 2 rfl ?_
    obtain ⟨r25, e25, h⟩ := wp_b1 h
    refine b_cVi C (pc := 25) dX0_lookFrom_25 (c_X4_gap (xl g) (xG g) a_this_basis a_this_basis_gaps c_this_basis_size c_this_basis_gaps p1 v2_2 r25 e25) rfl gX0_lookFrom_X4_gap ⟨rfl, rfl⟩ 2 hd_X4_gap ⟨Nat.le_of_ble_eq_true rfl, Nat.le_of_ble_eq_true rfl⟩ rfl 1 rfl rfl rfl [1, 2] rfl (srt_nd 0 rfl) (ws' := w_X0_lookFrom (xG g) a_this a_this_basis a_this_numbers a_this_keys a_this_twos a_this_basis_gaps c_this_followed c_this_there c_this_held c_this_basis_size c_this_basis_gaps this_numbers_2) (Put.m rfl rfl rfl) rfl (rest := [.int (jz 2), .int (jz v2_2), .ref a_this_numbers]) rfl (Nat.le_of_ble_eq_true rfl) ⟨Nat.zero_le _, Nat.zero_le _⟩ ?_
    refine r_imul C (pc := 28) dX0_lookFrom_28 ?_
    refine r_let h (fun x29 h => ?_)
    refine r_iast C (pc := 29) dX0_lookFrom_29 h 3 rfl (ws' := w_X0_lookFrom (xG g) a_this a_this_basis a_this_numbers a_this_keys a_this_twos a_this_basis_gaps c_this_followed c_this_there c_this_held c_this_basis_size c_this_basis_gaps (up this_numbers_2 (ix v2_2) x29)) rfl (fun h => ?_)
    refine r_iinc C (pc := 30) dX0_lookFrom_30 2 rfl (by decide) (L' := [(0, .ref a_this), (1, .int (jz p1)), (2, .int (jz (v2_2 + 1)))]) rfl ?_
    refine r_goto C (pc := 33) 2 dX0_lookFrom_33 rfl ?_
    exact hn2 (v2_2 + 1) (up this_numbers_2 (ix v2_2) x29) h
theorem c_X0_lookFrom (l : Launch) (G : gG) (a_this : Nat) (a_this_basis : Nat) (a_this_numbers : Nat) (a_this_keys : Nat) (a_this_twos : Nat) (a_this_basis_gaps : Nat) (c_this_followed : Int) (c_this_there : Int) (c_this_held : Int) (c_this_basis_size : Int) (c_this_basis_gaps : Nat → Int) (c_this_numbers : Nat → Int) (p1 : Int) (o0 : Nat → Int) (hf : f_X0_lookFrom p1 c_this_basis_size c_this_basis_gaps c_this_numbers = some o0) : CTv l yX0_lookFrom wsX0_lookFrom rm_X0_lookFrom G (w_X0_lookFrom G a_this a_this_basis a_this_numbers a_this_keys a_this_twos a_this_basis_gaps c_this_followed c_this_there c_this_held c_this_basis_size c_this_basis_gaps c_this_numbers) [.ref a_this, .int (jz p1)] (w_X0_lookFrom G a_this a_this_basis a_this_numbers a_this_keys a_this_twos a_this_basis_gaps c_this_followed c_this_there c_this_held c_this_basis_size c_this_basis_gaps o0) := CTv_of (by decide) rfl rfl (Nat.le_of_ble_eq_true rfl) (fun g C hG hl hF => by
    subst hG
    subst hl
    exact k_X0_lookFrom C a_this a_this_basis a_this_numbers a_this_keys a_this_twos a_this_basis_gaps c_this_followed c_this_there c_this_held c_this_basis_size c_this_basis_gaps c_this_numbers p1 (fun x => x = o0) (fun o0' e => by cases e; exact hF) ⟨_, hf, rfl⟩)

-- TightHulls$Hull.add()V
def f_X0_add (c_this_held : Int) (c_this_basis_size : Int) (c_this_numbers : Nat → Int) (c_this_keys : Nat → Int64) : Option (Int × (Nat → Int64)) := lv ((0 : Int64)) (fun x1 => lq2 (fun (n4 : Int64 → Int → Option (Int × (Nat → Int64))) (v1_4 : Int64) (v3_4 : Int) => if ltI v3_4 5 = true then (jn (fun (s1_34 : Int) => lv (((lshlI v1_4 7) ||| (i2lI s1_34))) (fun x36 => n4 x36 (v3_4 + 1))) (fun (k34 : Int → Option (Int × (Nat → Int64))) => if ltI v3_4 c_this_basis_size = true then (grd (iin v3_4 5) (k34 (c_this_numbers (ix v3_4)))) else (k34 0))) else (lq1 (fun (n45 : Int → Option (Int × (Nat → Int64))) (v3_45 : Int) => jn (jn (some (c_this_held, c_this_keys)) (fun (k98 : Option (Int × (Nat → Int64))) => if ltI c_this_held 37 = true then (jn (lq2 (fun (n105 : Int → (Nat → Int64) → Option (Int × (Nat → Int64))) (v4_105 : Int) (this_keys_105 : Nat → Int64) => if ltI v3_45 v4_105 = true then (grd (iin (v4_105 - 1) 37) (lv ((this_keys_105 (ix (v4_105 - 1)))) (fun x126 => grd (iin v4_105 37) (n105 (v4_105 + (-1)) (up this_keys_105 (ix v4_105) x126))))) else (grd (iin v3_45 37) (lv ((c_this_held + 1)) (fun x147 => some (x147, (up this_keys_105 (ix v3_45) v1_4)))))) 300 c_this_held c_this_keys) (fun (k99 : Option (Int × (Nat → Int64))) => if ltI v3_45 c_this_held = true then (grd (iin v3_45 37) (if eqI (lcmI (c_this_keys (ix v3_45)) v1_4) 0 = true then k98 else k99)) else k99)) else k98)) (fun (k70 : Option (Int × (Nat → Int64))) => if ltI v3_45 c_this_held = true then (grd (iin v3_45 37) (if ltI (lcmI (c_this_keys (ix v3_45)) v1_4) 0 = true then (n45 (v3_45 + 1)) else k70)) else k70)) 300 0)) 300 x1 0)
abbrev rm_X0_add : Room := { frames := 0, cells := 0, slots := 0, locals := 0 }
abbrev w_X0_add (G : gG) (a_this : Nat) (a_this_basis : Nat) (a_this_numbers : Nat) (a_this_keys : Nat) (a_this_twos : Nat) (a_this_basis_gaps : Nat) (c_this_followed : Int) (c_this_there : Int) (c_this_held : Int) (c_this_basis_size : Int) (c_this_numbers : Nat → Int) (c_this_keys : Nat → Int64) : va_W := [(a_this, .inr (0, [.ref a_this_basis, .int (jz c_this_followed), .ref a_this_numbers, .ref a_this_keys, .ref a_this_twos, .int (jz c_this_there), .int (jz c_this_held)])), (a_this_basis, .inr (4, [.int (jz c_this_basis_size), .ref a_this_basis_gaps])), (a_this_numbers, aI G 5 c_this_numbers), (a_this_keys, aJ G 37 c_this_keys)]
theorem hd_X0_add : yX0_add.cls = RX0 ∧ yX0_add.cls ≠ "java/lang/invoke/MethodHandle" ∧ yX0_add.cls ≠ "java/lang/invoke/VarHandle" ∧ (parseMethodDescriptor yX0_add.desc).map (fun d => d.parameters.length) = some 0 := by decide +kernel
theorem in_X0_add_X0 : ∀ w ∈ u_ws RX0 TX0 7, w ∈ wsX0_add := fun w h => List.mem_cons_of_mem _ (List.mem_append_left _ (List.mem_append_right _ (h)))
theorem gf_X0_add_36 : GF wsX0_add RX0 36 0 6 := ⟨RX0, TX0, 7, rfl, in_X0_add_X0, by decide, List.mem_of_getElem? (i := 4) rfl⟩
theorem gf_X0_add_26 : GF wsX0_add RX0 26 0 3 := ⟨RX0, TX0, 7, rfl, in_X0_add_X0, by decide, List.mem_of_getElem? (i := 5) rfl⟩
theorem pf_X0_add_36 : PF wsX0_add RX0 36 0 6 .int false := ⟨RX0, TX0, 7, tyX0, rfl, in_X0_add_X0, tyX0_ok, nmX0, by decide, List.mem_of_getElem? (i := 4) rfl, rfl, rfl, rfl⟩
theorem gf_X0_add_12 : GF wsX0_add RX0 12 0 0 := ⟨RX0, TX0, 7, rfl, in_X0_add_X0, by decide, List.mem_of_getElem? (i := 1) rfl⟩
theorem in_X0_add_X4 : ∀ w ∈ u_ws RX4 TX4 2, w ∈ wsX0_add := fun w h => List.mem_cons_of_mem _ (List.mem_append_right _ (h))
theorem gf_X0_add_64 : GF wsX0_add RX0 64 4 0 := ⟨RX4, TX4, 2, rfl, in_X0_add_X4, by decide, List.mem_of_getElem? (i := 2) rfl⟩
theorem gf_X0_add_22 : GF wsX0_add RX0 22 0 2 := ⟨RX0, TX0, 7, rfl, in_X0_add_X0, by decide, List.mem_of_getElem? (i := 3) rfl⟩
set_option maxRecDepth 100000 in
set_option maxHeartbeats 4000000 in
theorem k_X0_add {g : XC} (C : XOk g cX0_add RX0 wsX0_add rm_X0_add 5) (a_this : Nat) (a_this_basis : Nat) (a_this_numbers : Nat) (a_this_keys : Nat) (a_this_twos : Nat) (a_this_basis_gaps : Nat) (c_this_followed : Int) (c_this_there : Int) (c_this_held : Int) (c_this_basis_size : Int) (c_this_numbers : Nat → Int) (c_this_keys : Nat → Int64)  (K : (Int × (Nat → Int64)) → Prop) (hK : ∀ (o0 : Int) (o1 : Nat → Int64), K (o0, o1) → FinV g 0 0 (w_X0_add (xG g) a_this a_this_basis a_this_numbers a_this_keys a_this_twos a_this_basis_gaps c_this_followed c_this_there o0 c_this_basis_size c_this_numbers o1)) (h : wp (f_X0_add c_this_held c_this_basis_size c_this_numbers c_this_keys) K) : WW g 0 0 (w_X0_add (xG g) a_this a_this_basis a_this_numbers a_this_keys a_this_twos a_this_basis_gaps c_this_followed c_this_there c_this_held c_this_basis_size c_this_numbers c_this_keys) 0 [(0, .ref a_this)] [] := by
  unfold f_X0_add at h
  refine r_lconst C (pc := 0) dX0_add_0 rfl ?_
  refine r_letl h (fun x1 h => ?_)
  refine r_lstore_n C (pc := 1) dX0_add_1 rfl (by decide) (L' := [(0, .ref a_this), (1, .long x1)]) rfl ?_
  refine r_iconst C (pc := 2) dX0_add_2 ?_
  refine r_istore_n C (pc := 3) dX0_add_3 rfl (by decide) (L' := [(0, .ref a_this), (1, .long x1), (3, .int (jz 0))]) rfl ?_
  refine lq2_e (fun (v1_4 : Int64) (v3_4 : Int) => WW g 0 0 (w_X0_add (xG g) a_this a_this_basis a_this_numbers a_this_keys a_this_twos a_this_basis_gaps c_this_followed c_this_there c_this_held c_this_basis_size c_this_numbers c_this_keys) 4 [(0, .ref a_this), (1, .long v1_4), (3, .int (jz v3_4))] []) h (fun n4 hn4 v1_4 v3_4 h => ?_)
  refine r_iload_n C (pc := 4) dX0_add_4 rfl 2 rfl ?_
  refine r_iconst C (pc := 5) dX0_add_5 ?_
  refine r_icmp_ge C (pc := 6) 43 dX0_add_6 rfl h (fun c6 h => ?_) (fun c6 h => ?_)
  · refine r_iconst C (pc := 43) dX0_add_43 ?_
    refine r_istore_n C (pc := 44) dX0_add_44 rfl (by decide) (L' := [(0, .ref a_this), (1, .long v1_4), (3, .int (jz 0))]) rfl ?_
    refine lq1_e (fun (v3_45 : Int) => WW g 0 0 (w_X0_add (xG g) a_this a_this_basis a_this_numbers a_this_keys a_this_twos a_this_basis_gaps c_this_followed c_this_there c_this_held c_this_basis_size c_this_numbers c_this_keys) 45 [(0, .ref a_this), (1, .long v1_4), (3, .int (jz v3_45))] []) h (fun n45 hn45 v3_45 h => ?_)
    refine r_iload_n C (pc := 45) dX0_add_45 rfl 2 rfl ?_
    refine r_aload_n C (pc := 46) dX0_add_46 rfl 0 rfl ?_
    refine r_get C (pc := 47) dX0_add_47 gf_X0_add_36 0 rfl rfl ?_
    refine jn_e (fun (k70 : Option (Int × (Nat → Int64))) => wp (k70) K → WW g 0 0 (w_X0_add (xG g) a_this a_this_basis a_this_numbers a_this_keys a_this_twos a_this_basis_gaps c_this_followed c_this_there c_this_held c_this_basis_size c_this_numbers c_this_keys) 70 [(0, .ref a_this), (1, .long v1_4), (3, .int (jz v3_45))] []) h (fun h => ?_) (fun k70 hk70 h => ?_)
    · refine r_aload_n C (pc := 70) dX0_add_70 rfl 0 rfl ?_
      refine r_get C (pc := 71) dX0_add_71 gf_X0_add_36 0 rfl rfl ?_
      refine r_bipush C (pc := 74) dX0_add_74 rfl ?_
      refine jn_e (fun (k98 : Option (Int × (Nat → Int64))) => wp (k98) K → WW g 0 0 (w_X0_add (xG g) a_this a_this_basis a_this_numbers a_this_keys a_this_twos a_this_basis_gaps c_this_followed c_this_there c_this_held c_this_basis_size c_this_numbers c_this_keys) 98 [] []) h (fun h => ?_) (fun k98 hk98 h => ?_)
      · exact r_vret C (pc := 98) dX0_add_98 (hK c_this_held c_this_keys (wp_s h))
      · refine r_icmp_ge C (pc := 76) 98 dX0_add_76 rfl h (fun c76 h => ?_) (fun c76 h => ?_)
        · refine r_sub [] rfl ?_
          exact hk98 h
        · refine r_iload_n C (pc := 79) dX0_add_79 rfl 2 rfl ?_
          refine r_aload_n C (pc := 80) dX0_add_80 rfl 0 rfl ?_
          refine r_get C (pc := 81) dX0_add_81 gf_X0_add_36 0 rfl rfl ?_
          refine jn_e (fun (k99 : Option (Int × (Nat → Int64))) => wp (k99) K → WW g 0 0 (w_X0_add (xG g) a_this a_this_basis a_this_numbers a_this_keys a_this_twos a_this_basis_gaps c_this_followed c_this_there c_this_held c_this_basis_size c_this_numbers c_this_keys) 99 [(0, .ref a_this), (1, .long v1_4), (3, .int (jz v3_45))] []) h (fun h => ?_) (fun k99 hk99 h => ?_)
          · refine r_aload_n C (pc := 99) dX0_add_99 rfl 0 rfl ?_
            refine r_get C (pc := 100) dX0_add_100 gf_X0_add_36 0 rfl rfl ?_
            refine r_istore C (pc := 103) dX0_add_103 (by decide) (L' := [(0, .ref a_this), (1, .long v1_4), (3, .int (jz v3_45)), (4, .int (jz c_this_held))]) rfl ?_
            refine lq2_e (fun (v4_105 : Int) (this_keys_105 : Nat → Int64) => WW g 0 0 (w_X0_add (xG g) a_this a_this_basis a_this_numbers a_this_keys a_this_twos a_this_basis_gaps c_this_followed c_this_there c_this_held c_this_basis_size c_this_numbers this_keys_105) 105 [(0, .ref a_this), (1, .long v1_4), (3, .int (jz v3_45)), (4, .int (jz v4_105))] []) h (fun n105 hn105 v4_105 this_keys_105 h => ?_)
            refine r_iload C (pc := 105) dX0_add_105 3 rfl ?_
            refine r_iload_n C (pc := 107) dX0_add_107 rfl 2 rfl ?_
            refine r_icmp_le C (pc := 108) 133 dX0_add_108 rfl h (fun c108 h => ?_) (fun c108 h => ?_)
            · refine r_aload_n C (pc := 133) dX0_add_133 rfl 0 rfl ?_
              refine r_get C (pc := 134) dX0_add_134 gf_X0_add_26 0 rfl rfl ?_
              refine r_iload_n C (pc := 137) dX0_add_137 rfl 2 rfl ?_
              refine r_lload_n C (pc := 138) dX0_add_138 rfl 1 rfl ?_
              refine r_last C (pc := 139) dX0_add_139 h 3 rfl (ws' := w_X0_add (xG g) a_this a_this_basis a_this_numbers a_this_keys a_this_twos a_this_basis_gaps c_this_followed c_this_there c_this_held c_this_basis_size c_this_numbers (up this_keys_105 (ix v3_45) v1_4)) rfl (fun h => ?_)
              refine r_aload_n C (pc := 140) dX0_add_140 rfl 0 rfl ?_
              refine r_dup C (pc := 141) dX0_add_141 rfl ?_
              refine r_get C (pc := 142) dX0_add_142 gf_X0_add_36 0 rfl rfl ?_
              refine r_iconst C (pc := 145) dX0_add_145 ?_
              refine r_iadd C (pc := 146) dX0_add_146 ?_
              refine r_let h (fun x147 h => ?_)
              refine r_puti C (pc := 147) dX0_add_147 pf_X0_add_36 0 rfl (Nat.le_of_ble_eq_true rfl) (ws' := w_X0_add (xG g) a_this a_this_basis a_this_numbers a_this_keys a_this_twos a_this_basis_gaps c_this_followed c_this_there x147 c_this_basis_size c_this_numbers (up this_keys_105 (ix v3_45) v1_4)) rfl ?_
              exact r_vret C (pc := 150) dX0_add_150 (hK x147 (up this_keys_105 (ix v3_45) v1_4) (wp_s h))
            · refine r_aload_n C (pc := 111) dX0_add_111 rfl 0 rfl ?_
              refine r_get C (pc := 112) dX0_add_112 gf_X0_add_26 0 rfl rfl ?_
              refine r_iload C (pc := 115) dX0_add_115 3 rfl ?_
              refine r_aload_n C (pc := 117) dX0_add_117 rfl 0 rfl ?_
              refine r_get C (pc := 118) dX0_add_118 gf_X0_add_26 0 rfl rfl ?_
              refine r_iload C (pc := 121) dX0_add_121 3 rfl ?_
              refine r_iconst C (pc := 123) dX0_add_123 ?_
              refine r_isub C (pc := 124) dX0_add_124 ?_
              refine r_lald C (pc := 125) dX0_add_125 h 3 rfl (fun h => ?_)
              refine r_letl h (fun x126 h => ?_)
              refine r_last C (pc := 126) dX0_add_126 h 3 rfl (ws' := w_X0_add (xG g) a_this a_this_basis a_this_numbers a_this_keys a_this_twos a_this_basis_gaps c_this_followed c_this_there c_this_held c_this_basis_size c_this_numbers (up this_keys_105 (ix v4_105) x126)) rfl (fun h => ?_)
              refine r_iinc C (pc := 127) dX0_add_127 3 rfl (by decide) (L' := [(0, .ref a_this), (1, .long v1_4), (3, .int (jz v3_45)), (4, .int (jz (v4_105 + (-1))))]) rfl ?_
              refine r_goto C (pc := 130) 105 dX0_add_130 rfl ?_
              exact hn105 (v4_105 + (-1)) (up this_keys_105 (ix v4_105) x126) h
          · refine r_icmp_ge C (pc := 84) 99 dX0_add_84 rfl h (fun c84 h => ?_) (fun c84 h => ?_)
            · exact hk99 h
            · refine r_aload_n C (pc := 87) dX0_add_87 rfl 0 rfl ?_
              refine r_get C (pc := 88) dX0_add_88 gf_X0_add_26 0 rfl rfl ?_
              refine r_iload_n C (pc := 91) dX0_add_91 rfl 2 rfl ?_
              refine r_lald C (pc := 92) dX0_add_92 h 3 rfl (fun h => ?_)
              refine r_lload_n C (pc := 93) dX0_add_93 rfl 1 rfl ?_
              refine r_lcmp C (pc := 94) dX0_add_94 ?_
              refine r_if_ne C (pc := 95) 99 dX0_add_95 rfl h (fun c95 h => ?_) (fun c95 h => ?_)
              · exact hk99 h
              · refine r_sub [] rfl ?_
                exact hk98 h
    · refine r_icmp_ge C (pc := 50) 70 dX0_add_50 rfl h (fun c50 h => ?_) (fun c50 h => ?_)
      · exact hk70 h
      · refine r_aload_n C (pc := 53) dX0_add_53 rfl 0 rfl ?_
        refine r_get C (pc := 54) dX0_add_54 gf_X0_add_26 0 rfl rfl ?_
        refine r_iload_n C (pc := 57) dX0_add_57 rfl 2 rfl ?_
        refine r_lald C (pc := 58) dX0_add_58 h 3 rfl (fun h => ?_)
        refine r_lload_n C (pc := 59) dX0_add_59 rfl 1 rfl ?_
        refine r_lcmp C (pc := 60) dX0_add_60 ?_
        refine r_if_ge C (pc := 61) 70 dX0_add_61 rfl h (fun c61 h => ?_) (fun c61 h => ?_)
        · exact hk70 h
        · refine r_iinc C (pc := 64) dX0_add_64 2 rfl (by decide) (L' := [(0, .ref a_this), (1, .long v1_4), (3, .int (jz (v3_45 + 1)))]) rfl ?_
          refine r_goto C (pc := 67) 45 dX0_add_67 rfl ?_
          exact hn45 (v3_45 + 1) h
  · refine r_lload_n C (pc := 9) dX0_add_9 rfl 1 rfl ?_
    refine r_bipush C (pc := 10) dX0_add_10 rfl ?_
    refine r_lshl C (pc := 12) dX0_add_12 ?_
    refine r_iload_n C (pc := 13) dX0_add_13 rfl 2 rfl ?_
    refine r_aload_n C (pc := 14) dX0_add_14 rfl 0 rfl ?_
    refine r_get C (pc := 15) dX0_add_15 gf_X0_add_12 0 rfl rfl ?_
    refine r_get C (pc := 18) dX0_add_18 gf_X0_add_64 1 rfl rfl ?_
    refine jn_e (fun (k34 : Int → Option (Int × (Nat → Int64))) => ∀ (s1_34 : Int), wp (k34 s1_34) K → WW g 0 0 (w_X0_add (xG g) a_this a_this_basis a_this_numbers a_this_keys a_this_twos a_this_basis_gaps c_this_followed c_this_there c_this_held c_this_basis_size c_this_numbers c_this_keys) 34 [(0, .ref a_this), (3, .int (jz v3_4))] [.int (jz s1_34), .long (lshlI v1_4 7)]) h (fun s1_34 h => ?_) (fun k34 hk34 h => ?_)
    · refine r_i2l C (pc := 34) dX0_add_34 ?_
      refine r_lor C (pc := 35) dX0_add_35 ?_
      refine r_letl h (fun x36 h => ?_)
      refine r_lstore_n C (pc := 36) dX0_add_36 rfl (by decide) (L' := [(0, .ref a_this), (1, .long x36), (3, .int (jz v3_4))]) rfl ?_
      refine r_iinc C (pc := 37) dX0_add_37 2 rfl (by decide) (L' := [(0, .ref a_this), (1, .long x36), (3, .int (jz (v3_4 + 1)))]) rfl ?_
      refine r_goto C (pc := 40) 4 dX0_add_40 rfl ?_
      exact hn4 x36 (v3_4 + 1) h
    · refine r_icmp_ge C (pc := 21) 33 dX0_add_21 rfl h (fun c21 h => ?_) (fun c21 h => ?_)
      · refine r_iconst C (pc := 33) dX0_add_33 ?_
        refine r_sub [0, 2] rfl ?_
        exact hk34 0 h
      · refine r_aload_n C (pc := 24) dX0_add_24 rfl 0 rfl ?_
        refine r_get C (pc := 25) dX0_add_25 gf_X0_add_22 0 rfl rfl ?_
        refine r_iload_n C (pc := 28) dX0_add_28 rfl 2 rfl ?_
        refine r_iald C (pc := 29) dX0_add_29 h 2 rfl (fun h => ?_)
        refine r_goto C (pc := 30) 34 dX0_add_30 rfl ?_
        refine r_sub [0, 2] rfl ?_
        exact hk34 (c_this_numbers (ix v3_4)) h
theorem c_X0_add (l : Launch) (G : gG) (a_this : Nat) (a_this_basis : Nat) (a_this_numbers : Nat) (a_this_keys : Nat) (a_this_twos : Nat) (a_this_basis_gaps : Nat) (c_this_followed : Int) (c_this_there : Int) (c_this_held : Int) (c_this_basis_size : Int) (c_this_numbers : Nat → Int) (c_this_keys : Nat → Int64) (o0 : Int) (o1 : Nat → Int64) (hf : f_X0_add c_this_held c_this_basis_size c_this_numbers c_this_keys = some (o0, o1)) : CTv l yX0_add wsX0_add rm_X0_add G (w_X0_add G a_this a_this_basis a_this_numbers a_this_keys a_this_twos a_this_basis_gaps c_this_followed c_this_there c_this_held c_this_basis_size c_this_numbers c_this_keys) [.ref a_this] (w_X0_add G a_this a_this_basis a_this_numbers a_this_keys a_this_twos a_this_basis_gaps c_this_followed c_this_there o0 c_this_basis_size c_this_numbers o1) := CTv_of (by decide) rfl rfl (Nat.le_of_ble_eq_true rfl) (fun g C hG hl hF => by
    subst hG
    subst hl
    exact k_X0_add C a_this a_this_basis a_this_numbers a_this_keys a_this_twos a_this_basis_gaps c_this_followed c_this_there c_this_held c_this_basis_size c_this_numbers c_this_keys (fun x => x = (o0, o1)) (fun o0' o1' e => by cases e; exact hF) ⟨_, hf, rfl⟩)

-- TightHulls$Hull.addEyes()V
def f_X0_addEyes (c_this_held : Int) (c_this_basis_size : Int) (c_this_basis_gaps : Nat → Int) (c_this_numbers : Nat → Int) (c_this_keys : Nat → Int64) : Option (Int × (Nat → Int) × (Nat → Int64)) := lq4 (fun (n2 : Int → Int → (Nat → Int) → (Nat → Int64) → Option (Int × (Nat → Int) × (Nat → Int64))) (v1_2 : Int) (this_held_2 : Int) (this_numbers_2 : Nat → Int) (this_keys_2 : Nat → Int64) => if ltI v1_2 c_this_basis_size = true then (bd1 (f_X0_lookFrom v1_2 c_this_basis_size c_this_basis_gaps this_numbers_2) (fun this_numbers_15 => bd2 (f_X0_add this_held_2 c_this_basis_size this_numbers_15 this_keys_2) (fun this_held_19 this_keys_19 => n2 (v1_2 + 1) this_held_19 this_numbers_15 this_keys_19))) else (some (this_held_2, this_numbers_2, this_keys_2))) 300 0 c_this_held c_this_numbers c_this_keys
abbrev rm_X0_addEyes : Room := { frames := 2, cells := 0, slots := 0, locals := 45 }
abbrev w_X0_addEyes (G : gG) (a_this : Nat) (a_this_basis : Nat) (a_this_numbers : Nat) (a_this_keys : Nat) (a_this_twos : Nat) (a_this_basis_gaps : Nat) (c_this_followed : Int) (c_this_there : Int) (c_this_held : Int) (c_this_basis_size : Int) (c_this_basis_gaps : Nat → Int) (c_this_numbers : Nat → Int) (c_this_keys : Nat → Int64) : va_W := [(a_this, .inr (0, [.ref a_this_basis, .int (jz c_this_followed), .ref a_this_numbers, .ref a_this_keys, .ref a_this_twos, .int (jz c_this_there), .int (jz c_this_held)])), (a_this_basis, .inr (4, [.int (jz c_this_basis_size), .ref a_this_basis_gaps])), (a_this_basis_gaps, aI G 25 c_this_basis_gaps), (a_this_numbers, aI G 5 c_this_numbers), (a_this_keys, aJ G 37 c_this_keys)]
theorem hd_X0_addEyes : yX0_addEyes.cls = RX0 ∧ yX0_addEyes.cls ≠ "java/lang/invoke/MethodHandle" ∧ yX0_addEyes.cls ≠ "java/lang/invoke/VarHandle" ∧ (parseMethodDescriptor yX0_addEyes.desc).map (fun d => d.parameters.length) = some 0 := by decide +kernel
theorem in_X0_addEyes_X0 : ∀ w ∈ u_ws RX0 TX0 7, w ∈ wsX0_addEyes := fun w h => List.mem_cons_of_mem _ (List.mem_append_left _ (List.mem_append_right _ (h)))
theorem gf_X0_addEyes_12 : GF wsX0_addEyes RX0 12 0 0 := ⟨RX0, TX0, 7, rfl, in_X0_addEyes_X0, by decide, List.mem_of_getElem? (i := 1) rfl⟩
theorem in_X0_addEyes_X4 : ∀ w ∈ u_ws RX4 TX4 2, w ∈ wsX0_addEyes := fun w h => List.mem_cons_of_mem _ (List.mem_append_right _ (h))
theorem gf_X0_addEyes_64 : GF wsX0_addEyes RX0 64 4 0 := ⟨RX4, TX4, 2, rfl, in_X0_addEyes_X4, by decide, List.mem_of_getElem? (i := 2) rfl⟩
set_option maxRecDepth 100000 in
set_option maxHeartbeats 4000000 in
theorem k_X0_addEyes {g : XC} (C : XOk g cX0_addEyes RX0 wsX0_addEyes rm_X0_addEyes 2) (a_this : Nat) (a_this_basis : Nat) (a_this_numbers : Nat) (a_this_keys : Nat) (a_this_twos : Nat) (a_this_basis_gaps : Nat) (c_this_followed : Int) (c_this_there : Int) (c_this_held : Int) (c_this_basis_size : Int) (c_this_basis_gaps : Nat → Int) (c_this_numbers : Nat → Int) (c_this_keys : Nat → Int64)  (K : (Int × (Nat → Int) × (Nat → Int64)) → Prop) (hK : ∀ (o0 : Int) (o1 : Nat → Int) (o2 : Nat → Int64), K (o0, o1, o2) → FinV g 0 0 (w_X0_addEyes (xG g) a_this a_this_basis a_this_numbers a_this_keys a_this_twos a_this_basis_gaps c_this_followed c_this_there o0 c_this_basis_size c_this_basis_gaps o1 o2)) (h : wp (f_X0_addEyes c_this_held c_this_basis_size c_this_basis_gaps c_this_numbers c_this_keys) K) : WW g 0 0 (w_X0_addEyes (xG g) a_this a_this_basis a_this_numbers a_this_keys a_this_twos a_this_basis_gaps c_this_followed c_this_there c_this_held c_this_basis_size c_this_basis_gaps c_this_numbers c_this_keys) 0 [(0, .ref a_this)] [] := by
  unfold f_X0_addEyes at h
  refine r_iconst C (pc := 0) dX0_addEyes_0 ?_
  refine r_istore_n C (pc := 1) dX0_addEyes_1 rfl (by decide) (L' := [(0, .ref a_this), (1, .int (jz 0))]) rfl ?_
  refine lq4_e (fun (v1_2 : Int) (this_held_2 : Int) (this_numbers_2 : Nat → Int) (this_keys_2 : Nat → Int64) => WW g 0 0 (w_X0_addEyes (xG g) a_this a_this_basis a_this_numbers a_this_keys a_this_twos a_this_basis_gaps c_this_followed c_this_there this_held_2 c_this_basis_size c_this_basis_gaps this_numbers_2 this_keys_2) 2 [(0, .ref a_this), (1, .int (jz v1_2))] []) h (fun n2 hn2 v1_2 this_held_2 this_numbers_2 this_keys_2 h => ?_)
  refine r_iload_n C (pc := 2) dX0_addEyes_2 rfl 1 rfl ?_
  refine r_aload_n C (pc := 3) dX0_addEyes_3 rfl 0 rfl ?_
  refine r_get C (pc := 4) dX0_addEyes_4 gf_X0_addEyes_12 0 rfl rfl ?_
  refine r_get C (pc := 7) dX0_addEyes_7 gf_X0_addEyes_64 1 rfl rfl ?_
  refine r_icmp_ge C (pc := 10) 28 dX0_addEyes_10 rfl h (fun c10 h => ?_) (fun c10 h => ?_)
  · exact r_vret C (pc := 28) dX0_addEyes_28 (hK this_held_2 this_numbers_2 this_keys_2 (wp_s h))
  · refine r_aload_n C (pc := 13) dX0_addEyes_13 rfl 0 rfl ?_
    refine r_iload_n C (pc := 14) dX0_addEyes_14 rfl 1 rfl ?_
    obtain ⟨this_numbers_15, e15, h⟩ := wp_b1 h
    refine b_cVv C (pc := 15) dX0_addEyes_15 (c_X0_lookFrom (xl g) (xG g) a_this a_this_basis a_this_numbers a_this_keys a_this_twos a_this_basis_gaps c_this_followed c_this_there this_held_2 c_this_basis_size c_this_basis_gaps this_numbers_2 v1_2 this_numbers_15 e15) rfl gX0_addEyes_X0_lookFrom ⟨rfl, rfl⟩ 1 hd_X0_lookFrom ⟨Nat.le_of_ble_eq_true rfl, Nat.le_of_ble_eq_true rfl⟩ rfl 0 rfl rfl rfl [0, 1, 2, 3] rfl (srt_nd 0 rfl) (ws' := w_X0_addEyes (xG g) a_this a_this_basis a_this_numbers a_this_keys a_this_twos a_this_basis_gaps c_this_followed c_this_there this_held_2 c_this_basis_size c_this_basis_gaps this_numbers_15 this_keys_2) (Put.m rfl rfl rfl) rfl (rest := []) rfl (Nat.le_of_ble_eq_true rfl) ⟨Nat.zero_le _, Nat.zero_le _⟩ ?_
    refine r_aload_n C (pc := 18) dX0_addEyes_18 rfl 0 rfl ?_
    obtain ⟨this_held_19, this_keys_19, e19, h⟩ := wp_b2 h
    refine b_cVv C (pc := 19) dX0_addEyes_19 (c_X0_add (xl g) (xG g) a_this a_this_basis a_this_numbers a_this_keys a_this_twos a_this_basis_gaps c_this_followed c_this_there this_held_2 c_this_basis_size this_numbers_15 this_keys_2 this_held_19 this_keys_19 e19) rfl gX0_addEyes_X0_add ⟨rfl, rfl⟩ 0 hd_X0_add ⟨Nat.le_of_ble_eq_true rfl, Nat.le_of_ble_eq_true rfl⟩ rfl 0 rfl rfl rfl [0, 1, 3, 4] rfl (srt_nd 0 rfl) (ws' := w_X0_addEyes (xG g) a_this a_this_basis a_this_numbers a_this_keys a_this_twos a_this_basis_gaps c_this_followed c_this_there this_held_19 c_this_basis_size c_this_basis_gaps this_numbers_15 this_keys_19) (Put.m rfl rfl rfl) rfl (rest := []) rfl (Nat.le_of_ble_eq_true rfl) ⟨Nat.zero_le _, Nat.zero_le _⟩ ?_
    refine r_iinc C (pc := 22) dX0_addEyes_22 1 rfl (by decide) (L' := [(0, .ref a_this), (1, .int (jz (v1_2 + 1)))]) rfl ?_
    refine r_goto C (pc := 25) 2 dX0_addEyes_25 rfl ?_
    exact hn2 (v1_2 + 1) this_held_19 this_numbers_15 this_keys_19 h
theorem c_X0_addEyes (l : Launch) (G : gG) (a_this : Nat) (a_this_basis : Nat) (a_this_numbers : Nat) (a_this_keys : Nat) (a_this_twos : Nat) (a_this_basis_gaps : Nat) (c_this_followed : Int) (c_this_there : Int) (c_this_held : Int) (c_this_basis_size : Int) (c_this_basis_gaps : Nat → Int) (c_this_numbers : Nat → Int) (c_this_keys : Nat → Int64) (o0 : Int) (o1 : Nat → Int) (o2 : Nat → Int64) (hf : f_X0_addEyes c_this_held c_this_basis_size c_this_basis_gaps c_this_numbers c_this_keys = some (o0, o1, o2)) : CTv l yX0_addEyes wsX0_addEyes rm_X0_addEyes G (w_X0_addEyes G a_this a_this_basis a_this_numbers a_this_keys a_this_twos a_this_basis_gaps c_this_followed c_this_there c_this_held c_this_basis_size c_this_basis_gaps c_this_numbers c_this_keys) [.ref a_this] (w_X0_addEyes G a_this a_this_basis a_this_numbers a_this_keys a_this_twos a_this_basis_gaps c_this_followed c_this_there o0 c_this_basis_size c_this_basis_gaps o1 o2) := CTv_of (by decide) rfl rfl (Nat.le_of_ble_eq_true rfl) (fun g C hG hl hF => by
    subst hG
    subst hl
    exact k_X0_addEyes C a_this a_this_basis a_this_numbers a_this_keys a_this_twos a_this_basis_gaps c_this_followed c_this_there c_this_held c_this_basis_size c_this_basis_gaps c_this_numbers c_this_keys (fun x => x = (o0, o1, o2)) (fun o0' o1' o2' e => by cases e; exact hF) ⟨_, hf, rfl⟩)

-- TightHulls$Hull.addRoundOfThree(III)V
def f_X0_addRoundOfThree (p1 : Int) (p2 : Int) (p3 : Int) (c_this_held : Int) (c_this_basis_size : Int) (c_this_basis_gaps : Nat → Int) (c_this_numbers : Nat → Int) (c_this_keys : Nat → Int64) : Option (Int × (Nat → Int) × (Nat → Int64)) := bd1 (f_X4_gap p1 p2 c_this_basis_size c_this_basis_gaps) (fun r6 => bd1 (f_X4_gap p1 p3 c_this_basis_size c_this_basis_gaps) (fun r17 => bd1 (f_X4_gap p2 p3 c_this_basis_size c_this_basis_gaps) (fun r28 => lv (((r6 + r17) - r28)) (fun x46 => grd (iin p1 5) (lv (((r6 + r28) - r17)) (fun x60 => grd (iin p2 5) (lv (((r17 + r28) - r6)) (fun x74 => grd (iin p3 5) (lq4 (fun (n78 : Int → Int → (Nat → Int) → (Nat → Int64) → Option (Int × (Nat → Int) × (Nat → Int64))) (v7_78 : Int) (this_held_78 : Int) (this_numbers_78 : Nat → Int) (this_keys_78 : Nat → Int64) => if ltI v7_78 2 = true then (lv ((orI (orI (shlI 1 p1) (shlI 1 p2)) (shlI 1 p3))) (fun x95 => lq3 (fun (n100 : Int → Int → (Nat → Int) → Option (Int × (Nat → Int) × (Nat → Int64))) (v8_100 : Int) (v9_100 : Int) (this_numbers_100 : Nat → Int) => if ltI v9_100 c_this_basis_size = true then (jn (fun (s0_134 : Int) => jn (fun (v8_177 : Int) (this_numbers_177 : Nat → Int) => n100 v8_177 (v9_100 + 1) this_numbers_177) (fun (k177 : Int → (Nat → Int) → Option (Int × (Nat → Int) × (Nat → Int64))) => if eqI (andI (shrI v8_100 s0_134) 1) 0 = true then (bd1 (f_X7_needed s0_134 v8_100 c_this_basis_size c_this_basis_gaps this_numbers_100) (fun r164 => grd (iin s0_134 5) (lv ((orI v8_100 (shlI 1 s0_134))) (fun x175 => k177 x175 (up this_numbers_100 (ix s0_134) r164))))) else (k177 v8_100 this_numbers_100))) (fun (k134 : Int → Option (Int × (Nat → Int) × (Nat → Int64))) => if eqI v7_78 0 = true then (k134 v9_100) else (k134 ((c_this_basis_size - 1) - v9_100)))) else (bd2 (f_X0_add this_held_78 c_this_basis_size this_numbers_100 this_keys_78) (fun this_held_184 this_keys_184 => n78 (v7_78 + 1) this_held_184 this_numbers_100 this_keys_184))) 300 x95 0 this_numbers_78)) else (some (this_held_78, this_numbers_78, this_keys_78))) 300 0 c_this_held (up (up (up c_this_numbers (ix p1) x46) (ix p2) x60) (ix p3) x74) c_this_keys)))))))))
abbrev rm_X0_addRoundOfThree : Room := { frames := 2, cells := 0, slots := 0, locals := 85 }
abbrev w_X0_addRoundOfThree (G : gG) (a_this : Nat) (a_this_basis : Nat) (a_this_numbers : Nat) (a_this_keys : Nat) (a_this_twos : Nat) (a_this_basis_gaps : Nat) (c_this_followed : Int) (c_this_there : Int) (c_this_held : Int) (c_this_basis_size : Int) (c_this_basis_gaps : Nat → Int) (c_this_numbers : Nat → Int) (c_this_keys : Nat → Int64) : va_W := [(a_this, .inr (0, [.ref a_this_basis, .int (jz c_this_followed), .ref a_this_numbers, .ref a_this_keys, .ref a_this_twos, .int (jz c_this_there), .int (jz c_this_held)])), (a_this_basis, .inr (4, [.int (jz c_this_basis_size), .ref a_this_basis_gaps])), (a_this_basis_gaps, aI G 25 c_this_basis_gaps), (a_this_numbers, aI G 5 c_this_numbers), (a_this_keys, aJ G 37 c_this_keys)]
theorem hd_X0_addRoundOfThree : yX0_addRoundOfThree.cls = RX0 ∧ yX0_addRoundOfThree.cls ≠ "java/lang/invoke/MethodHandle" ∧ yX0_addRoundOfThree.cls ≠ "java/lang/invoke/VarHandle" ∧ (parseMethodDescriptor yX0_addRoundOfThree.desc).map (fun d => d.parameters.length) = some 3 := by decide +kernel
theorem in_X0_addRoundOfThree_X0 : ∀ w ∈ u_ws RX0 TX0 7, w ∈ wsX0_addRoundOfThree := fun w h => List.mem_cons_of_mem _ (List.mem_append_left _ (List.mem_append_right _ (h)))
theorem gf_X0_addRoundOfThree_12 : GF wsX0_addRoundOfThree RX0 12 0 0 := ⟨RX0, TX0, 7, rfl, in_X0_addRoundOfThree_X0, by decide, List.mem_of_getElem? (i := 1) rfl⟩
theorem gf_X0_addRoundOfThree_22 : GF wsX0_addRoundOfThree RX0 22 0 2 := ⟨RX0, TX0, 7, rfl, in_X0_addRoundOfThree_X0, by decide, List.mem_of_getElem? (i := 2) rfl⟩
theorem in_X0_addRoundOfThree_X4 : ∀ w ∈ u_ws RX4 TX4 2, w ∈ wsX0_addRoundOfThree := fun w h => List.mem_cons_of_mem _ (List.mem_append_right _ (h))
theorem gf_X0_addRoundOfThree_64 : GF wsX0_addRoundOfThree RX0 64 4 0 := ⟨RX4, TX4, 2, rfl, in_X0_addRoundOfThree_X4, by decide, List.mem_of_getElem? (i := 3) rfl⟩
set_option maxRecDepth 100000 in
set_option maxHeartbeats 4000000 in
theorem k_X0_addRoundOfThree {g : XC} (C : XOk g cX0_addRoundOfThree RX0 wsX0_addRoundOfThree rm_X0_addRoundOfThree 11) (a_this : Nat) (a_this_basis : Nat) (a_this_numbers : Nat) (a_this_keys : Nat) (a_this_twos : Nat) (a_this_basis_gaps : Nat) (c_this_followed : Int) (c_this_there : Int) (c_this_held : Int) (c_this_basis_size : Int) (c_this_basis_gaps : Nat → Int) (c_this_numbers : Nat → Int) (c_this_keys : Nat → Int64) (p1 : Int) (p2 : Int) (p3 : Int) (K : (Int × (Nat → Int) × (Nat → Int64)) → Prop) (hK : ∀ (o0 : Int) (o1 : Nat → Int) (o2 : Nat → Int64), K (o0, o1, o2) → FinV g 0 0 (w_X0_addRoundOfThree (xG g) a_this a_this_basis a_this_numbers a_this_keys a_this_twos a_this_basis_gaps c_this_followed c_this_there o0 c_this_basis_size c_this_basis_gaps o1 o2)) (h : wp (f_X0_addRoundOfThree p1 p2 p3 c_this_held c_this_basis_size c_this_basis_gaps c_this_numbers c_this_keys) K) : WW g 0 0 (w_X0_addRoundOfThree (xG g) a_this a_this_basis a_this_numbers a_this_keys a_this_twos a_this_basis_gaps c_this_followed c_this_there c_this_held c_this_basis_size c_this_basis_gaps c_this_numbers c_this_keys) 0 [(0, .ref a_this), (1, .int (jz p1)), (2, .int (jz p2)), (3, .int (jz p3))] [] := by
  unfold f_X0_addRoundOfThree at h
  refine r_aload_n C (pc := 0) dX0_addRoundOfThree_0 rfl 0 rfl ?_
  refine r_get C (pc := 1) dX0_addRoundOfThree_1 gf_X0_addRoundOfThree_12 0 rfl rfl ?_
  refine r_iload_n C (pc := 4) dX0_addRoundOfThree_4 rfl 1 rfl ?_
  refine r_iload_n C (pc := 5) dX0_addRoundOfThree_5 rfl 2 rfl ?_
  obtain ⟨r6, e6, h⟩ := wp_b1 h
  refine b_cVi C (pc := 6) dX0_addRoundOfThree_6 (c_X4_gap (xl g) (xG g) a_this_basis a_this_basis_gaps c_this_basis_size c_this_basis_gaps p1 p2 r6 e6) rfl gX0_addRoundOfThree_X4_gap ⟨rfl, rfl⟩ 2 hd_X4_gap ⟨Nat.le_of_ble_eq_true rfl, Nat.le_of_ble_eq_true rfl⟩ rfl 1 rfl rfl rfl [1, 2] rfl (srt_nd 0 rfl) (ws' := w_X0_addRoundOfThree (xG g) a_this a_this_basis a_this_numbers a_this_keys a_this_twos a_this_basis_gaps c_this_followed c_this_there c_this_held c_this_basis_size c_this_basis_gaps c_this_numbers c_this_keys) (Put.m rfl rfl rfl) rfl (rest := []) rfl (Nat.le_of_ble_eq_true rfl) ⟨Nat.zero_le _, Nat.zero_le _⟩ ?_
  refine r_istore C (pc := 9) dX0_addRoundOfThree_9 (by decide) (L' := [(0, .ref a_this), (1, .int (jz p1)), (2, .int (jz p2)), (3, .int (jz p3)), (4, .int (jz r6))]) rfl ?_
  refine r_aload_n C (pc := 11) dX0_addRoundOfThree_11 rfl 0 rfl ?_
  refine r_get C (pc := 12) dX0_addRoundOfThree_12 gf_X0_addRoundOfThree_12 0 rfl rfl ?_
  refine r_iload_n C (pc := 15) dX0_addRoundOfThree_15 rfl 1 rfl ?_
  refine r_iload_n C (pc := 16) dX0_addRoundOfThree_16 rfl 3 rfl ?_
  obtain ⟨r17, e17, h⟩ := wp_b1 h
  refine b_cVi C (pc := 17) dX0_addRoundOfThree_17 (c_X4_gap (xl g) (xG g) a_this_basis a_this_basis_gaps c_this_basis_size c_this_basis_gaps p1 p3 r17 e17) rfl gX0_addRoundOfThree_X4_gap ⟨rfl, rfl⟩ 2 hd_X4_gap ⟨Nat.le_of_ble_eq_true rfl, Nat.le_of_ble_eq_true rfl⟩ rfl 1 rfl rfl rfl [1, 2] rfl (srt_nd 0 rfl) (ws' := w_X0_addRoundOfThree (xG g) a_this a_this_basis a_this_numbers a_this_keys a_this_twos a_this_basis_gaps c_this_followed c_this_there c_this_held c_this_basis_size c_this_basis_gaps c_this_numbers c_this_keys) (Put.m rfl rfl rfl) rfl (rest := []) rfl (Nat.le_of_ble_eq_true rfl) ⟨Nat.zero_le _, Nat.zero_le _⟩ ?_
  refine r_istore C (pc := 20) dX0_addRoundOfThree_20 (by decide) (L' := [(0, .ref a_this), (1, .int (jz p1)), (2, .int (jz p2)), (3, .int (jz p3)), (4, .int (jz r6)), (5, .int (jz r17))]) rfl ?_
  refine r_aload_n C (pc := 22) dX0_addRoundOfThree_22 rfl 0 rfl ?_
  refine r_get C (pc := 23) dX0_addRoundOfThree_23 gf_X0_addRoundOfThree_12 0 rfl rfl ?_
  refine r_iload_n C (pc := 26) dX0_addRoundOfThree_26 rfl 2 rfl ?_
  refine r_iload_n C (pc := 27) dX0_addRoundOfThree_27 rfl 3 rfl ?_
  obtain ⟨r28, e28, h⟩ := wp_b1 h
  refine b_cVi C (pc := 28) dX0_addRoundOfThree_28 (c_X4_gap (xl g) (xG g) a_this_basis a_this_basis_gaps c_this_basis_size c_this_basis_gaps p2 p3 r28 e28) rfl gX0_addRoundOfThree_X4_gap ⟨rfl, rfl⟩ 2 hd_X4_gap ⟨Nat.le_of_ble_eq_true rfl, Nat.le_of_ble_eq_true rfl⟩ rfl 1 rfl rfl rfl [1, 2] rfl (srt_nd 0 rfl) (ws' := w_X0_addRoundOfThree (xG g) a_this a_this_basis a_this_numbers a_this_keys a_this_twos a_this_basis_gaps c_this_followed c_this_there c_this_held c_this_basis_size c_this_basis_gaps c_this_numbers c_this_keys) (Put.m rfl rfl rfl) rfl (rest := []) rfl (Nat.le_of_ble_eq_true rfl) ⟨Nat.zero_le _, Nat.zero_le _⟩ ?_
  refine r_istore C (pc := 31) dX0_addRoundOfThree_31 (by decide) (L' := [(0, .ref a_this), (1, .int (jz p1)), (2, .int (jz p2)), (3, .int (jz p3)), (4, .int (jz r6)), (5, .int (jz r17)), (6, .int (jz r28))]) rfl ?_
  refine r_aload_n C (pc := 33) dX0_addRoundOfThree_33 rfl 0 rfl ?_
  refine r_get C (pc := 34) dX0_addRoundOfThree_34 gf_X0_addRoundOfThree_22 0 rfl rfl ?_
  refine r_iload_n C (pc := 37) dX0_addRoundOfThree_37 rfl 1 rfl ?_
  refine r_iload C (pc := 38) dX0_addRoundOfThree_38 4 rfl ?_
  refine r_iload C (pc := 40) dX0_addRoundOfThree_40 5 rfl ?_
  refine r_iadd C (pc := 42) dX0_addRoundOfThree_42 ?_
  refine r_iload C (pc := 43) dX0_addRoundOfThree_43 6 rfl ?_
  refine r_isub C (pc := 45) dX0_addRoundOfThree_45 ?_
  refine r_let h (fun x46 h => ?_)
  refine r_iast C (pc := 46) dX0_addRoundOfThree_46 h 3 rfl (ws' := w_X0_addRoundOfThree (xG g) a_this a_this_basis a_this_numbers a_this_keys a_this_twos a_this_basis_gaps c_this_followed c_this_there c_this_held c_this_basis_size c_this_basis_gaps (up c_this_numbers (ix p1) x46) c_this_keys) rfl (fun h => ?_)
  refine r_aload_n C (pc := 47) dX0_addRoundOfThree_47 rfl 0 rfl ?_
  refine r_get C (pc := 48) dX0_addRoundOfThree_48 gf_X0_addRoundOfThree_22 0 rfl rfl ?_
  refine r_iload_n C (pc := 51) dX0_addRoundOfThree_51 rfl 2 rfl ?_
  refine r_iload C (pc := 52) dX0_addRoundOfThree_52 4 rfl ?_
  refine r_iload C (pc := 54) dX0_addRoundOfThree_54 6 rfl ?_
  refine r_iadd C (pc := 56) dX0_addRoundOfThree_56 ?_
  refine r_iload C (pc := 57) dX0_addRoundOfThree_57 5 rfl ?_
  refine r_isub C (pc := 59) dX0_addRoundOfThree_59 ?_
  refine r_let h (fun x60 h => ?_)
  refine r_iast C (pc := 60) dX0_addRoundOfThree_60 h 3 rfl (ws' := w_X0_addRoundOfThree (xG g) a_this a_this_basis a_this_numbers a_this_keys a_this_twos a_this_basis_gaps c_this_followed c_this_there c_this_held c_this_basis_size c_this_basis_gaps (up (up c_this_numbers (ix p1) x46) (ix p2) x60) c_this_keys) rfl (fun h => ?_)
  refine r_aload_n C (pc := 61) dX0_addRoundOfThree_61 rfl 0 rfl ?_
  refine r_get C (pc := 62) dX0_addRoundOfThree_62 gf_X0_addRoundOfThree_22 0 rfl rfl ?_
  refine r_iload_n C (pc := 65) dX0_addRoundOfThree_65 rfl 3 rfl ?_
  refine r_iload C (pc := 66) dX0_addRoundOfThree_66 5 rfl ?_
  refine r_iload C (pc := 68) dX0_addRoundOfThree_68 6 rfl ?_
  refine r_iadd C (pc := 70) dX0_addRoundOfThree_70 ?_
  refine r_iload C (pc := 71) dX0_addRoundOfThree_71 4 rfl ?_
  refine r_isub C (pc := 73) dX0_addRoundOfThree_73 ?_
  refine r_let h (fun x74 h => ?_)
  refine r_iast C (pc := 74) dX0_addRoundOfThree_74 h 3 rfl (ws' := w_X0_addRoundOfThree (xG g) a_this a_this_basis a_this_numbers a_this_keys a_this_twos a_this_basis_gaps c_this_followed c_this_there c_this_held c_this_basis_size c_this_basis_gaps (up (up (up c_this_numbers (ix p1) x46) (ix p2) x60) (ix p3) x74) c_this_keys) rfl (fun h => ?_)
  refine r_iconst C (pc := 75) dX0_addRoundOfThree_75 ?_
  refine r_istore C (pc := 76) dX0_addRoundOfThree_76 (by decide) (L' := [(0, .ref a_this), (1, .int (jz p1)), (2, .int (jz p2)), (3, .int (jz p3)), (4, .int (jz r6)), (5, .int (jz r17)), (6, .int (jz r28)), (7, .int (jz 0))]) rfl ?_
  refine r_sub [0, 1, 2, 3, 7] rfl ?_
  refine lq4_e (fun (v7_78 : Int) (this_held_78 : Int) (this_numbers_78 : Nat → Int) (this_keys_78 : Nat → Int64) => WW g 0 0 (w_X0_addRoundOfThree (xG g) a_this a_this_basis a_this_numbers a_this_keys a_this_twos a_this_basis_gaps c_this_followed c_this_there this_held_78 c_this_basis_size c_this_basis_gaps this_numbers_78 this_keys_78) 78 [(0, .ref a_this), (1, .int (jz p1)), (2, .int (jz p2)), (3, .int (jz p3)), (7, .int (jz v7_78))] []) h (fun n78 hn78 v7_78 this_held_78 this_numbers_78 this_keys_78 h => ?_)
  refine r_iload C (pc := 78) dX0_addRoundOfThree_78 4 rfl ?_
  refine r_iconst C (pc := 80) dX0_addRoundOfThree_80 ?_
  refine r_icmp_ge C (pc := 81) 193 dX0_addRoundOfThree_81 rfl h (fun c81 h => ?_) (fun c81 h => ?_)
  · exact r_vret C (pc := 193) dX0_addRoundOfThree_193 (hK this_held_78 this_numbers_78 this_keys_78 (wp_s h))
  · refine r_iconst C (pc := 84) dX0_addRoundOfThree_84 ?_
    refine r_iload_n C (pc := 85) dX0_addRoundOfThree_85 rfl 1 rfl ?_
    refine r_ishl C (pc := 86) dX0_addRoundOfThree_86 ?_
    refine r_iconst C (pc := 87) dX0_addRoundOfThree_87 ?_
    refine r_iload_n C (pc := 88) dX0_addRoundOfThree_88 rfl 2 rfl ?_
    refine r_ishl C (pc := 89) dX0_addRoundOfThree_89 ?_
    refine r_ior C (pc := 90) dX0_addRoundOfThree_90 ?_
    refine r_iconst C (pc := 91) dX0_addRoundOfThree_91 ?_
    refine r_iload_n C (pc := 92) dX0_addRoundOfThree_92 rfl 3 rfl ?_
    refine r_ishl C (pc := 93) dX0_addRoundOfThree_93 ?_
    refine r_ior C (pc := 94) dX0_addRoundOfThree_94 ?_
    refine r_let h (fun x95 h => ?_)
    refine r_istore C (pc := 95) dX0_addRoundOfThree_95 (by decide) (L' := [(0, .ref a_this), (1, .int (jz p1)), (2, .int (jz p2)), (3, .int (jz p3)), (7, .int (jz v7_78)), (8, .int (jz x95))]) rfl ?_
    refine r_iconst C (pc := 97) dX0_addRoundOfThree_97 ?_
    refine r_istore C (pc := 98) dX0_addRoundOfThree_98 (by decide) (L' := [(0, .ref a_this), (1, .int (jz p1)), (2, .int (jz p2)), (3, .int (jz p3)), (7, .int (jz v7_78)), (8, .int (jz x95)), (9, .int (jz 0))]) rfl ?_
    refine lq3_e (fun (v8_100 : Int) (v9_100 : Int) (this_numbers_100 : Nat → Int) => WW g 0 0 (w_X0_addRoundOfThree (xG g) a_this a_this_basis a_this_numbers a_this_keys a_this_twos a_this_basis_gaps c_this_followed c_this_there this_held_78 c_this_basis_size c_this_basis_gaps this_numbers_100 this_keys_78) 100 [(0, .ref a_this), (1, .int (jz p1)), (2, .int (jz p2)), (3, .int (jz p3)), (7, .int (jz v7_78)), (8, .int (jz v8_100)), (9, .int (jz v9_100))] []) h (fun n100 hn100 v8_100 v9_100 this_numbers_100 h => ?_)
    refine r_iload C (pc := 100) dX0_addRoundOfThree_100 6 rfl ?_
    refine r_aload_n C (pc := 102) dX0_addRoundOfThree_102 rfl 0 rfl ?_
    refine r_get C (pc := 103) dX0_addRoundOfThree_103 gf_X0_addRoundOfThree_12 0 rfl rfl ?_
    refine r_get C (pc := 106) dX0_addRoundOfThree_106 gf_X0_addRoundOfThree_64 1 rfl rfl ?_
    refine r_icmp_ge C (pc := 109) 183 dX0_addRoundOfThree_109 rfl h (fun c109 h => ?_) (fun c109 h => ?_)
    · refine r_aload_n C (pc := 183) dX0_addRoundOfThree_183 rfl 0 rfl ?_
      obtain ⟨this_held_184, this_keys_184, e184, h⟩ := wp_b2 h
      refine b_cVv C (pc := 184) dX0_addRoundOfThree_184 (c_X0_add (xl g) (xG g) a_this a_this_basis a_this_numbers a_this_keys a_this_twos a_this_basis_gaps c_this_followed c_this_there this_held_78 c_this_basis_size this_numbers_100 this_keys_78 this_held_184 this_keys_184 e184) rfl gX0_addRoundOfThree_X0_add ⟨rfl, rfl⟩ 0 hd_X0_add ⟨Nat.le_of_ble_eq_true rfl, Nat.le_of_ble_eq_true rfl⟩ rfl 0 rfl rfl rfl [0, 1, 3, 4] rfl (srt_nd 0 rfl) (ws' := w_X0_addRoundOfThree (xG g) a_this a_this_basis a_this_numbers a_this_keys a_this_twos a_this_basis_gaps c_this_followed c_this_there this_held_184 c_this_basis_size c_this_basis_gaps this_numbers_100 this_keys_184) (Put.m rfl rfl rfl) rfl (rest := []) rfl (Nat.le_of_ble_eq_true rfl) ⟨Nat.zero_le _, Nat.zero_le _⟩ ?_
      refine r_iinc C (pc := 187) dX0_addRoundOfThree_187 4 rfl (by decide) (L' := [(0, .ref a_this), (1, .int (jz p1)), (2, .int (jz p2)), (3, .int (jz p3)), (7, .int (jz (v7_78 + 1))), (8, .int (jz v8_100)), (9, .int (jz v9_100))]) rfl ?_
      refine r_goto C (pc := 190) 78 dX0_addRoundOfThree_190 rfl ?_
      refine r_sub [0, 1, 2, 3, 4] rfl ?_
      exact hn78 (v7_78 + 1) this_held_184 this_numbers_100 this_keys_184 h
    · refine r_iload C (pc := 112) dX0_addRoundOfThree_112 4 rfl ?_
      refine jn_e (fun (k134 : Int → Option (Int × (Nat → Int) × (Nat → Int64))) => ∀ (s0_134 : Int), wp (k134 s0_134) K → WW g 0 0 (w_X0_addRoundOfThree (xG g) a_this a_this_basis a_this_numbers a_this_keys a_this_twos a_this_basis_gaps c_this_followed c_this_there this_held_78 c_this_basis_size c_this_basis_gaps this_numbers_100 this_keys_78) 134 [(0, .ref a_this), (1, .int (jz p1)), (2, .int (jz p2)), (3, .int (jz p3)), (7, .int (jz v7_78)), (8, .int (jz v8_100)), (9, .int (jz v9_100))] [.int (jz s0_134)]) h (fun s0_134 h => ?_) (fun k134 hk134 h => ?_)
      · refine r_istore C (pc := 134) dX0_addRoundOfThree_134 (by decide) (L' := [(0, .ref a_this), (1, .int (jz p1)), (2, .int (jz p2)), (3, .int (jz p3)), (7, .int (jz v7_78)), (8, .int (jz v8_100)), (9, .int (jz v9_100)), (10, .int (jz s0_134))]) rfl ?_
        refine r_iload C (pc := 136) dX0_addRoundOfThree_136 5 rfl ?_
        refine r_iload C (pc := 138) dX0_addRoundOfThree_138 7 rfl ?_
        refine r_ishr C (pc := 140) dX0_addRoundOfThree_140 ?_
        refine r_iconst C (pc := 141) dX0_addRoundOfThree_141 ?_
        refine r_iand C (pc := 142) dX0_addRoundOfThree_142 ?_
        refine jn_e (fun (k177 : Int → (Nat → Int) → Option (Int × (Nat → Int) × (Nat → Int64))) => ∀ (v8_177 : Int) (this_numbers_177 : Nat → Int), wp (k177 v8_177 this_numbers_177) K → WW g 0 0 (w_X0_addRoundOfThree (xG g) a_this a_this_basis a_this_numbers a_this_keys a_this_twos a_this_basis_gaps c_this_followed c_this_there this_held_78 c_this_basis_size c_this_basis_gaps this_numbers_177 this_keys_78) 177 [(0, .ref a_this), (1, .int (jz p1)), (2, .int (jz p2)), (3, .int (jz p3)), (7, .int (jz v7_78)), (8, .int (jz v8_177)), (9, .int (jz v9_100))] []) h (fun v8_177 this_numbers_177 h => ?_) (fun k177 hk177 h => ?_)
        · refine r_iinc C (pc := 177) dX0_addRoundOfThree_177 6 rfl (by decide) (L' := [(0, .ref a_this), (1, .int (jz p1)), (2, .int (jz p2)), (3, .int (jz p3)), (7, .int (jz v7_78)), (8, .int (jz v8_177)), (9, .int (jz (v9_100 + 1)))]) rfl ?_
          refine r_goto C (pc := 180) 100 dX0_addRoundOfThree_180 rfl ?_
          exact hn100 v8_177 (v9_100 + 1) this_numbers_177 h
        · refine r_if_ne C (pc := 143) 177 dX0_addRoundOfThree_143 rfl h (fun c143 h => ?_) (fun c143 h => ?_)
          · refine r_sub [0, 1, 2, 3, 4, 5, 6] rfl ?_
            exact hk177 v8_100 this_numbers_100 h
          · refine r_aload_n C (pc := 146) dX0_addRoundOfThree_146 rfl 0 rfl ?_
            refine r_get C (pc := 147) dX0_addRoundOfThree_147 gf_X0_addRoundOfThree_22 0 rfl rfl ?_
            refine r_iload C (pc := 150) dX0_addRoundOfThree_150 7 rfl ?_
            refine r_aload_n C (pc := 152) dX0_addRoundOfThree_152 rfl 0 rfl ?_
            refine r_get C (pc := 153) dX0_addRoundOfThree_153 gf_X0_addRoundOfThree_12 0 rfl rfl ?_
            refine r_aload_n C (pc := 156) dX0_addRoundOfThree_156 rfl 0 rfl ?_
            refine r_get C (pc := 157) dX0_addRoundOfThree_157 gf_X0_addRoundOfThree_22 0 rfl rfl ?_
            refine r_iload C (pc := 160) dX0_addRoundOfThree_160 7 rfl ?_
            refine r_iload C (pc := 162) dX0_addRoundOfThree_162 5 rfl ?_
            obtain ⟨r164, e164, h⟩ := wp_b1 h
            refine b_cSi C (pc := 164) dX0_addRoundOfThree_164 (c_X7_needed (xl g) (xG g) a_this_basis a_this_basis_gaps a_this_numbers c_this_basis_size c_this_basis_gaps this_numbers_100 s0_134 v8_100 r164 e164) rfl gX0_addRoundOfThree_X7_needed ⟨rfl, rfl⟩ 4 hd_X7_needed ⟨Nat.le_of_ble_eq_true rfl, Nat.le_of_ble_eq_true rfl⟩ rfl [1, 2, 3] rfl (srt_nd 0 rfl) (ws' := w_X0_addRoundOfThree (xG g) a_this a_this_basis a_this_numbers a_this_keys a_this_twos a_this_basis_gaps c_this_followed c_this_there this_held_78 c_this_basis_size c_this_basis_gaps this_numbers_100 this_keys_78) (Put.m rfl rfl rfl) rfl (rest := [.int (jz s0_134), .ref a_this_numbers]) rfl (Nat.le_of_ble_eq_true rfl) ⟨Nat.zero_le _, Nat.zero_le _⟩ ?_
            refine r_iast C (pc := 167) dX0_addRoundOfThree_167 h 3 rfl (ws' := w_X0_addRoundOfThree (xG g) a_this a_this_basis a_this_numbers a_this_keys a_this_twos a_this_basis_gaps c_this_followed c_this_there this_held_78 c_this_basis_size c_this_basis_gaps (up this_numbers_100 (ix s0_134) r164) this_keys_78) rfl (fun h => ?_)
            refine r_iload C (pc := 168) dX0_addRoundOfThree_168 5 rfl ?_
            refine r_iconst C (pc := 170) dX0_addRoundOfThree_170 ?_
            refine r_iload C (pc := 171) dX0_addRoundOfThree_171 7 rfl ?_
            refine r_ishl C (pc := 173) dX0_addRoundOfThree_173 ?_
            refine r_ior C (pc := 174) dX0_addRoundOfThree_174 ?_
            refine r_let h (fun x175 h => ?_)
            refine r_istore C (pc := 175) dX0_addRoundOfThree_175 (by decide) (L' := [(0, .ref a_this), (1, .int (jz p1)), (2, .int (jz p2)), (3, .int (jz p3)), (7, .int (jz v7_78)), (8, .int (jz x175)), (9, .int (jz v9_100)), (10, .int (jz s0_134))]) rfl ?_
            refine r_sub [0, 1, 2, 3, 4, 5, 6] rfl ?_
            exact hk177 x175 (up this_numbers_100 (ix s0_134) r164) h
      · refine r_if_ne C (pc := 114) 122 dX0_addRoundOfThree_114 rfl h (fun c114 h => ?_) (fun c114 h => ?_)
        · refine r_aload_n C (pc := 122) dX0_addRoundOfThree_122 rfl 0 rfl ?_
          refine r_get C (pc := 123) dX0_addRoundOfThree_123 gf_X0_addRoundOfThree_12 0 rfl rfl ?_
          refine r_get C (pc := 126) dX0_addRoundOfThree_126 gf_X0_addRoundOfThree_64 1 rfl rfl ?_
          refine r_iconst C (pc := 129) dX0_addRoundOfThree_129 ?_
          refine r_isub C (pc := 130) dX0_addRoundOfThree_130 ?_
          refine r_iload C (pc := 131) dX0_addRoundOfThree_131 6 rfl ?_
          refine r_isub C (pc := 133) dX0_addRoundOfThree_133 ?_
          exact hk134 ((c_this_basis_size - 1) - v9_100) h
        · refine r_iload C (pc := 117) dX0_addRoundOfThree_117 6 rfl ?_
          refine r_goto C (pc := 119) 134 dX0_addRoundOfThree_119 rfl ?_
          exact hk134 v9_100 h
theorem c_X0_addRoundOfThree (l : Launch) (G : gG) (a_this : Nat) (a_this_basis : Nat) (a_this_numbers : Nat) (a_this_keys : Nat) (a_this_twos : Nat) (a_this_basis_gaps : Nat) (c_this_followed : Int) (c_this_there : Int) (c_this_held : Int) (c_this_basis_size : Int) (c_this_basis_gaps : Nat → Int) (c_this_numbers : Nat → Int) (c_this_keys : Nat → Int64) (p1 : Int) (p2 : Int) (p3 : Int) (o0 : Int) (o1 : Nat → Int) (o2 : Nat → Int64) (hf : f_X0_addRoundOfThree p1 p2 p3 c_this_held c_this_basis_size c_this_basis_gaps c_this_numbers c_this_keys = some (o0, o1, o2)) : CTv l yX0_addRoundOfThree wsX0_addRoundOfThree rm_X0_addRoundOfThree G (w_X0_addRoundOfThree G a_this a_this_basis a_this_numbers a_this_keys a_this_twos a_this_basis_gaps c_this_followed c_this_there c_this_held c_this_basis_size c_this_basis_gaps c_this_numbers c_this_keys) [.ref a_this, .int (jz p1), .int (jz p2), .int (jz p3)] (w_X0_addRoundOfThree G a_this a_this_basis a_this_numbers a_this_keys a_this_twos a_this_basis_gaps c_this_followed c_this_there o0 c_this_basis_size c_this_basis_gaps o1 o2) := CTv_of (by decide) rfl rfl (Nat.le_of_ble_eq_true rfl) (fun g C hG hl hF => by
    subst hG
    subst hl
    exact k_X0_addRoundOfThree C a_this a_this_basis a_this_numbers a_this_keys a_this_twos a_this_basis_gaps c_this_followed c_this_there c_this_held c_this_basis_size c_this_basis_gaps c_this_numbers c_this_keys p1 p2 p3 (fun x => x = (o0, o1, o2)) (fun o0' o1' o2' e => by cases e; exact hF) ⟨_, hf, rfl⟩)

-- TightHulls$Hull.addRoundsOfThree()V
def f_X0_addRoundsOfThree (c_this_held : Int) (c_this_basis_size : Int) (c_this_basis_gaps : Nat → Int) (c_this_numbers : Nat → Int) (c_this_keys : Nat → Int64) : Option (Int × (Nat → Int) × (Nat → Int64)) := lq4 (fun (n2 : Int → Int → (Nat → Int) → (Nat → Int64) → Option (Int × (Nat → Int) × (Nat → Int64))) (v1_2 : Int) (this_held_2 : Int) (this_numbers_2 : Nat → Int) (this_keys_2 : Nat → Int64) => if ltI v1_2 c_this_basis_size = true then (lv ((v1_2 + 1)) (fun x16 => lq4 (fun (n17 : Int → Int → (Nat → Int) → (Nat → Int64) → Option (Int × (Nat → Int) × (Nat → Int64))) (v2_17 : Int) (this_held_17 : Int) (this_numbers_17 : Nat → Int) (this_keys_17 : Nat → Int64) => if ltI v2_17 c_this_basis_size = true then (lv ((v2_17 + 1)) (fun x31 => lq4 (fun (n32 : Int → Int → (Nat → Int) → (Nat → Int64) → Option (Int × (Nat → Int) × (Nat → Int64))) (v3_32 : Int) (this_held_32 : Int) (this_numbers_32 : Nat → Int) (this_keys_32 : Nat → Int64) => if ltI v3_32 c_this_basis_size = true then (bd3 (f_X0_addRoundOfThree v1_2 v2_17 v3_32 this_held_32 c_this_basis_size c_this_basis_gaps this_numbers_32 this_keys_32) (fun this_held_47 this_numbers_47 this_keys_47 => n32 (v3_32 + 1) this_held_47 this_numbers_47 this_keys_47)) else (n17 (v2_17 + 1) this_held_32 this_numbers_32 this_keys_32)) 300 x31 this_held_17 this_numbers_17 this_keys_17)) else (n2 (v1_2 + 1) this_held_17 this_numbers_17 this_keys_17)) 300 x16 this_held_2 this_numbers_2 this_keys_2)) else (some (this_held_2, this_numbers_2, this_keys_2))) 300 0 c_this_held c_this_numbers c_this_keys
abbrev rm_X0_addRoundsOfThree : Room := { frames := 3, cells := 0, slots := 0, locals := 115 }
abbrev w_X0_addRoundsOfThree (G : gG) (a_this : Nat) (a_this_basis : Nat) (a_this_numbers : Nat) (a_this_keys : Nat) (a_this_twos : Nat) (a_this_basis_gaps : Nat) (c_this_followed : Int) (c_this_there : Int) (c_this_held : Int) (c_this_basis_size : Int) (c_this_basis_gaps : Nat → Int) (c_this_numbers : Nat → Int) (c_this_keys : Nat → Int64) : va_W := [(a_this, .inr (0, [.ref a_this_basis, .int (jz c_this_followed), .ref a_this_numbers, .ref a_this_keys, .ref a_this_twos, .int (jz c_this_there), .int (jz c_this_held)])), (a_this_basis, .inr (4, [.int (jz c_this_basis_size), .ref a_this_basis_gaps])), (a_this_basis_gaps, aI G 25 c_this_basis_gaps), (a_this_numbers, aI G 5 c_this_numbers), (a_this_keys, aJ G 37 c_this_keys)]
theorem hd_X0_addRoundsOfThree : yX0_addRoundsOfThree.cls = RX0 ∧ yX0_addRoundsOfThree.cls ≠ "java/lang/invoke/MethodHandle" ∧ yX0_addRoundsOfThree.cls ≠ "java/lang/invoke/VarHandle" ∧ (parseMethodDescriptor yX0_addRoundsOfThree.desc).map (fun d => d.parameters.length) = some 0 := by decide +kernel
theorem in_X0_addRoundsOfThree_X0 : ∀ w ∈ u_ws RX0 TX0 7, w ∈ wsX0_addRoundsOfThree := fun w h => List.mem_cons_of_mem _ (List.mem_append_left _ (List.mem_append_right _ (h)))
theorem gf_X0_addRoundsOfThree_12 : GF wsX0_addRoundsOfThree RX0 12 0 0 := ⟨RX0, TX0, 7, rfl, in_X0_addRoundsOfThree_X0, by decide, List.mem_of_getElem? (i := 1) rfl⟩
theorem in_X0_addRoundsOfThree_X4 : ∀ w ∈ u_ws RX4 TX4 2, w ∈ wsX0_addRoundsOfThree := fun w h => List.mem_cons_of_mem _ (List.mem_append_right _ (h))
theorem gf_X0_addRoundsOfThree_64 : GF wsX0_addRoundsOfThree RX0 64 4 0 := ⟨RX4, TX4, 2, rfl, in_X0_addRoundsOfThree_X4, by decide, List.mem_of_getElem? (i := 2) rfl⟩
set_option maxRecDepth 100000 in
set_option maxHeartbeats 4000000 in
theorem k_X0_addRoundsOfThree {g : XC} (C : XOk g cX0_addRoundsOfThree RX0 wsX0_addRoundsOfThree rm_X0_addRoundsOfThree 4) (a_this : Nat) (a_this_basis : Nat) (a_this_numbers : Nat) (a_this_keys : Nat) (a_this_twos : Nat) (a_this_basis_gaps : Nat) (c_this_followed : Int) (c_this_there : Int) (c_this_held : Int) (c_this_basis_size : Int) (c_this_basis_gaps : Nat → Int) (c_this_numbers : Nat → Int) (c_this_keys : Nat → Int64)  (K : (Int × (Nat → Int) × (Nat → Int64)) → Prop) (hK : ∀ (o0 : Int) (o1 : Nat → Int) (o2 : Nat → Int64), K (o0, o1, o2) → FinV g 0 0 (w_X0_addRoundsOfThree (xG g) a_this a_this_basis a_this_numbers a_this_keys a_this_twos a_this_basis_gaps c_this_followed c_this_there o0 c_this_basis_size c_this_basis_gaps o1 o2)) (h : wp (f_X0_addRoundsOfThree c_this_held c_this_basis_size c_this_basis_gaps c_this_numbers c_this_keys) K) : WW g 0 0 (w_X0_addRoundsOfThree (xG g) a_this a_this_basis a_this_numbers a_this_keys a_this_twos a_this_basis_gaps c_this_followed c_this_there c_this_held c_this_basis_size c_this_basis_gaps c_this_numbers c_this_keys) 0 [(0, .ref a_this)] [] := by
  unfold f_X0_addRoundsOfThree at h
  refine r_iconst C (pc := 0) dX0_addRoundsOfThree_0 ?_
  refine r_istore_n C (pc := 1) dX0_addRoundsOfThree_1 rfl (by decide) (L' := [(0, .ref a_this), (1, .int (jz 0))]) rfl ?_
  refine lq4_e (fun (v1_2 : Int) (this_held_2 : Int) (this_numbers_2 : Nat → Int) (this_keys_2 : Nat → Int64) => WW g 0 0 (w_X0_addRoundsOfThree (xG g) a_this a_this_basis a_this_numbers a_this_keys a_this_twos a_this_basis_gaps c_this_followed c_this_there this_held_2 c_this_basis_size c_this_basis_gaps this_numbers_2 this_keys_2) 2 [(0, .ref a_this), (1, .int (jz v1_2))] []) h (fun n2 hn2 v1_2 this_held_2 this_numbers_2 this_keys_2 h => ?_)
  refine r_iload_n C (pc := 2) dX0_addRoundsOfThree_2 rfl 1 rfl ?_
  refine r_aload_n C (pc := 3) dX0_addRoundsOfThree_3 rfl 0 rfl ?_
  refine r_get C (pc := 4) dX0_addRoundsOfThree_4 gf_X0_addRoundsOfThree_12 0 rfl rfl ?_
  refine r_get C (pc := 7) dX0_addRoundsOfThree_7 gf_X0_addRoundsOfThree_64 1 rfl rfl ?_
  refine r_icmp_ge C (pc := 10) 68 dX0_addRoundsOfThree_10 rfl h (fun c10 h => ?_) (fun c10 h => ?_)
  · exact r_vret C (pc := 68) dX0_addRoundsOfThree_68 (hK this_held_2 this_numbers_2 this_keys_2 (wp_s h))
  · refine r_iload_n C (pc := 13) dX0_addRoundsOfThree_13 rfl 1 rfl ?_
    refine r_iconst C (pc := 14) dX0_addRoundsOfThree_14 ?_
    refine r_iadd C (pc := 15) dX0_addRoundsOfThree_15 ?_
    refine r_let h (fun x16 h => ?_)
    refine r_istore_n C (pc := 16) dX0_addRoundsOfThree_16 rfl (by decide) (L' := [(0, .ref a_this), (1, .int (jz v1_2)), (2, .int (jz x16))]) rfl ?_
    refine lq4_e (fun (v2_17 : Int) (this_held_17 : Int) (this_numbers_17 : Nat → Int) (this_keys_17 : Nat → Int64) => WW g 0 0 (w_X0_addRoundsOfThree (xG g) a_this a_this_basis a_this_numbers a_this_keys a_this_twos a_this_basis_gaps c_this_followed c_this_there this_held_17 c_this_basis_size c_this_basis_gaps this_numbers_17 this_keys_17) 17 [(0, .ref a_this), (1, .int (jz v1_2)), (2, .int (jz v2_17))] []) h (fun n17 hn17 v2_17 this_held_17 this_numbers_17 this_keys_17 h => ?_)
    refine r_iload_n C (pc := 17) dX0_addRoundsOfThree_17 rfl 2 rfl ?_
    refine r_aload_n C (pc := 18) dX0_addRoundsOfThree_18 rfl 0 rfl ?_
    refine r_get C (pc := 19) dX0_addRoundsOfThree_19 gf_X0_addRoundsOfThree_12 0 rfl rfl ?_
    refine r_get C (pc := 22) dX0_addRoundsOfThree_22 gf_X0_addRoundsOfThree_64 1 rfl rfl ?_
    refine r_icmp_ge C (pc := 25) 62 dX0_addRoundsOfThree_25 rfl h (fun c25 h => ?_) (fun c25 h => ?_)
    · refine r_iinc C (pc := 62) dX0_addRoundsOfThree_62 1 rfl (by decide) (L' := [(0, .ref a_this), (1, .int (jz (v1_2 + 1))), (2, .int (jz v2_17))]) rfl ?_
      refine r_goto C (pc := 65) 2 dX0_addRoundsOfThree_65 rfl ?_
      refine r_sub [0, 1] rfl ?_
      exact hn2 (v1_2 + 1) this_held_17 this_numbers_17 this_keys_17 h
    · refine r_iload_n C (pc := 28) dX0_addRoundsOfThree_28 rfl 2 rfl ?_
      refine r_iconst C (pc := 29) dX0_addRoundsOfThree_29 ?_
      refine r_iadd C (pc := 30) dX0_addRoundsOfThree_30 ?_
      refine r_let h (fun x31 h => ?_)
      refine r_istore_n C (pc := 31) dX0_addRoundsOfThree_31 rfl (by decide) (L' := [(0, .ref a_this), (1, .int (jz v1_2)), (2, .int (jz v2_17)), (3, .int (jz x31))]) rfl ?_
      refine lq4_e (fun (v3_32 : Int) (this_held_32 : Int) (this_numbers_32 : Nat → Int) (this_keys_32 : Nat → Int64) => WW g 0 0 (w_X0_addRoundsOfThree (xG g) a_this a_this_basis a_this_numbers a_this_keys a_this_twos a_this_basis_gaps c_this_followed c_this_there this_held_32 c_this_basis_size c_this_basis_gaps this_numbers_32 this_keys_32) 32 [(0, .ref a_this), (1, .int (jz v1_2)), (2, .int (jz v2_17)), (3, .int (jz v3_32))] []) h (fun n32 hn32 v3_32 this_held_32 this_numbers_32 this_keys_32 h => ?_)
      refine r_iload_n C (pc := 32) dX0_addRoundsOfThree_32 rfl 3 rfl ?_
      refine r_aload_n C (pc := 33) dX0_addRoundsOfThree_33 rfl 0 rfl ?_
      refine r_get C (pc := 34) dX0_addRoundsOfThree_34 gf_X0_addRoundsOfThree_12 0 rfl rfl ?_
      refine r_get C (pc := 37) dX0_addRoundsOfThree_37 gf_X0_addRoundsOfThree_64 1 rfl rfl ?_
      refine r_icmp_ge C (pc := 40) 56 dX0_addRoundsOfThree_40 rfl h (fun c40 h => ?_) (fun c40 h => ?_)
      · refine r_iinc C (pc := 56) dX0_addRoundsOfThree_56 2 rfl (by decide) (L' := [(0, .ref a_this), (1, .int (jz v1_2)), (2, .int (jz (v2_17 + 1))), (3, .int (jz v3_32))]) rfl ?_
        refine r_goto C (pc := 59) 17 dX0_addRoundsOfThree_59 rfl ?_
        refine r_sub [0, 1, 2] rfl ?_
        exact hn17 (v2_17 + 1) this_held_32 this_numbers_32 this_keys_32 h
      · refine r_aload_n C (pc := 43) dX0_addRoundsOfThree_43 rfl 0 rfl ?_
        refine r_iload_n C (pc := 44) dX0_addRoundsOfThree_44 rfl 1 rfl ?_
        refine r_iload_n C (pc := 45) dX0_addRoundsOfThree_45 rfl 2 rfl ?_
        refine r_iload_n C (pc := 46) dX0_addRoundsOfThree_46 rfl 3 rfl ?_
        obtain ⟨this_held_47, this_numbers_47, this_keys_47, e47, h⟩ := wp_b3 h
        refine b_cVv C (pc := 47) dX0_addRoundsOfThree_47 (c_X0_addRoundOfThree (xl g) (xG g) a_this a_this_basis a_this_numbers a_this_keys a_this_twos a_this_basis_gaps c_this_followed c_this_there this_held_32 c_this_basis_size c_this_basis_gaps this_numbers_32 this_keys_32 v1_2 v2_17 v3_32 this_held_47 this_numbers_47 this_keys_47 e47) rfl gX0_addRoundsOfThree_X0_addRoundOfThree ⟨rfl, rfl⟩ 3 hd_X0_addRoundOfThree ⟨Nat.le_of_ble_eq_true rfl, Nat.le_of_ble_eq_true rfl⟩ rfl 0 rfl rfl rfl [0, 1, 2, 3, 4] rfl (srt_nd 0 rfl) (ws' := w_X0_addRoundsOfThree (xG g) a_this a_this_basis a_this_numbers a_this_keys a_this_twos a_this_basis_gaps c_this_followed c_this_there this_held_47 c_this_basis_size c_this_basis_gaps this_numbers_47 this_keys_47) (Put.m rfl rfl rfl) rfl (rest := []) rfl (Nat.le_of_ble_eq_true rfl) ⟨Nat.zero_le _, Nat.zero_le _⟩ ?_
        refine r_iinc C (pc := 50) dX0_addRoundsOfThree_50 3 rfl (by decide) (L' := [(0, .ref a_this), (1, .int (jz v1_2)), (2, .int (jz v2_17)), (3, .int (jz (v3_32 + 1)))]) rfl ?_
        refine r_goto C (pc := 53) 32 dX0_addRoundsOfThree_53 rfl ?_
        exact hn32 (v3_32 + 1) this_held_47 this_numbers_47 this_keys_47 h
theorem c_X0_addRoundsOfThree (l : Launch) (G : gG) (a_this : Nat) (a_this_basis : Nat) (a_this_numbers : Nat) (a_this_keys : Nat) (a_this_twos : Nat) (a_this_basis_gaps : Nat) (c_this_followed : Int) (c_this_there : Int) (c_this_held : Int) (c_this_basis_size : Int) (c_this_basis_gaps : Nat → Int) (c_this_numbers : Nat → Int) (c_this_keys : Nat → Int64) (o0 : Int) (o1 : Nat → Int) (o2 : Nat → Int64) (hf : f_X0_addRoundsOfThree c_this_held c_this_basis_size c_this_basis_gaps c_this_numbers c_this_keys = some (o0, o1, o2)) : CTv l yX0_addRoundsOfThree wsX0_addRoundsOfThree rm_X0_addRoundsOfThree G (w_X0_addRoundsOfThree G a_this a_this_basis a_this_numbers a_this_keys a_this_twos a_this_basis_gaps c_this_followed c_this_there c_this_held c_this_basis_size c_this_basis_gaps c_this_numbers c_this_keys) [.ref a_this] (w_X0_addRoundsOfThree G a_this a_this_basis a_this_numbers a_this_keys a_this_twos a_this_basis_gaps c_this_followed c_this_there o0 c_this_basis_size c_this_basis_gaps o1 o2) := CTv_of (by decide) rfl rfl (Nat.le_of_ble_eq_true rfl) (fun g C hG hl hF => by
    subst hG
    subst hl
    exact k_X0_addRoundsOfThree C a_this a_this_basis a_this_numbers a_this_keys a_this_twos a_this_basis_gaps c_this_followed c_this_there c_this_held c_this_basis_size c_this_basis_gaps c_this_numbers c_this_keys (fun x => x = (o0, o1, o2)) (fun o0' o1' o2' e => by cases e; exact hF) ⟨_, hf, rfl⟩)

-- TightHulls$Hull.areNumbers()Z
def f_X0_areNumbers (c_this_basis_size : Int) (c_this_numbers : Nat → Int) : Option Int := lq1 (fun (n2 : Int → Option Int) (v1_2 : Int) => if ltI v1_2 c_this_basis_size = true then (grd (iin v1_2 5) (jn (some 0) (fun (k33 : Option Int) => if ltI (c_this_numbers (ix v1_2)) 0 = true then k33 else (grd (iin v1_2 5) (if ltI 80 (c_this_numbers (ix v1_2)) = true then k33 else (n2 (v1_2 + 1))))))) else (some 1)) 300 0
abbrev rm_X0_areNumbers : Room := { frames := 0, cells := 0, slots := 0, locals := 0 }
abbrev w_X0_areNumbers (G : gG) (a_this : Nat) (a_this_basis : Nat) (a_this_numbers : Nat) (a_this_keys : Nat) (a_this_twos : Nat) (a_this_basis_gaps : Nat) (c_this_followed : Int) (c_this_there : Int) (c_this_held : Int) (c_this_basis_size : Int) (c_this_numbers : Nat → Int) : va_W := [(a_this, .inr (0, [.ref a_this_basis, .int (jz c_this_followed), .ref a_this_numbers, .ref a_this_keys, .ref a_this_twos, .int (jz c_this_there), .int (jz c_this_held)])), (a_this_basis, .inr (4, [.int (jz c_this_basis_size), .ref a_this_basis_gaps])), (a_this_numbers, aI G 5 c_this_numbers)]
theorem hd_X0_areNumbers : yX0_areNumbers.cls = RX0 ∧ yX0_areNumbers.cls ≠ "java/lang/invoke/MethodHandle" ∧ yX0_areNumbers.cls ≠ "java/lang/invoke/VarHandle" ∧ (parseMethodDescriptor yX0_areNumbers.desc).map (fun d => d.parameters.length) = some 0 := by decide +kernel
theorem in_X0_areNumbers_X0 : ∀ w ∈ u_ws RX0 TX0 7, w ∈ wsX0_areNumbers := fun w h => List.mem_cons_of_mem _ (List.mem_append_left _ (List.mem_append_right _ (h)))
theorem gf_X0_areNumbers_12 : GF wsX0_areNumbers RX0 12 0 0 := ⟨RX0, TX0, 7, rfl, in_X0_areNumbers_X0, by decide, List.mem_of_getElem? (i := 1) rfl⟩
theorem in_X0_areNumbers_X4 : ∀ w ∈ u_ws RX4 TX4 2, w ∈ wsX0_areNumbers := fun w h => List.mem_cons_of_mem _ (List.mem_append_right _ (h))
theorem gf_X0_areNumbers_64 : GF wsX0_areNumbers RX0 64 4 0 := ⟨RX4, TX4, 2, rfl, in_X0_areNumbers_X4, by decide, List.mem_of_getElem? (i := 2) rfl⟩
theorem gf_X0_areNumbers_22 : GF wsX0_areNumbers RX0 22 0 2 := ⟨RX0, TX0, 7, rfl, in_X0_areNumbers_X0, by decide, List.mem_of_getElem? (i := 3) rfl⟩
set_option maxRecDepth 100000 in
set_option maxHeartbeats 4000000 in
theorem k_X0_areNumbers {g : XC} (C : XOk g cX0_areNumbers RX0 wsX0_areNumbers rm_X0_areNumbers 2) (a_this : Nat) (a_this_basis : Nat) (a_this_numbers : Nat) (a_this_keys : Nat) (a_this_twos : Nat) (a_this_basis_gaps : Nat) (c_this_followed : Int) (c_this_there : Int) (c_this_held : Int) (c_this_basis_size : Int) (c_this_numbers : Nat → Int)  (K : Int → Prop) (hK : ∀ (r : Int), K r → (narrow .boolean (.int (jz r)) = .int (jz r) → FinI g 0 0 (w_X0_areNumbers (xG g) a_this a_this_basis a_this_numbers a_this_keys a_this_twos a_this_basis_gaps c_this_followed c_this_there c_this_held c_this_basis_size c_this_numbers) (jz r))) (h : wp (f_X0_areNumbers c_this_basis_size c_this_numbers) K) : WW g 0 0 (w_X0_areNumbers (xG g) a_this a_this_basis a_this_numbers a_this_keys a_this_twos a_this_basis_gaps c_this_followed c_this_there c_this_held c_this_basis_size c_this_numbers) 0 [(0, .ref a_this)] [] := by
  unfold f_X0_areNumbers at h
  refine r_iconst C (pc := 0) dX0_areNumbers_0 ?_
  refine r_istore_n C (pc := 1) dX0_areNumbers_1 rfl (by decide) (L' := [(0, .ref a_this), (1, .int (jz 0))]) rfl ?_
  refine lq1_e (fun (v1_2 : Int) => WW g 0 0 (w_X0_areNumbers (xG g) a_this a_this_basis a_this_numbers a_this_keys a_this_twos a_this_basis_gaps c_this_followed c_this_there c_this_held c_this_basis_size c_this_numbers) 2 [(0, .ref a_this), (1, .int (jz v1_2))] []) h (fun n2 hn2 v1_2 h => ?_)
  refine r_iload_n C (pc := 2) dX0_areNumbers_2 rfl 1 rfl ?_
  refine r_aload_n C (pc := 3) dX0_areNumbers_3 rfl 0 rfl ?_
  refine r_get C (pc := 4) dX0_areNumbers_4 gf_X0_areNumbers_12 0 rfl rfl ?_
  refine r_get C (pc := 7) dX0_areNumbers_7 gf_X0_areNumbers_64 1 rfl rfl ?_
  refine r_icmp_ge C (pc := 10) 41 dX0_areNumbers_10 rfl h (fun c10 h => ?_) (fun c10 h => ?_)
  · refine r_iconst C (pc := 41) dX0_areNumbers_41 ?_
    exact r_iret C (pc := 42) dX0_areNumbers_42 (hK 1 (wp_s h) (nB rfl).1)
  · refine r_aload_n C (pc := 13) dX0_areNumbers_13 rfl 0 rfl ?_
    refine r_get C (pc := 14) dX0_areNumbers_14 gf_X0_areNumbers_22 0 rfl rfl ?_
    refine r_iload_n C (pc := 17) dX0_areNumbers_17 rfl 1 rfl ?_
    refine r_iald C (pc := 18) dX0_areNumbers_18 h 2 rfl (fun h => ?_)
    refine jn_e (fun (k33 : Option Int) => wp (k33) K → WW g 0 0 (w_X0_areNumbers (xG g) a_this a_this_basis a_this_numbers a_this_keys a_this_twos a_this_basis_gaps c_this_followed c_this_there c_this_held c_this_basis_size c_this_numbers) 33 [] []) h (fun h => ?_) (fun k33 hk33 h => ?_)
    · refine r_iconst C (pc := 33) dX0_areNumbers_33 ?_
      exact r_iret C (pc := 34) dX0_areNumbers_34 (hK 0 (wp_s h) (nB rfl).1)
    · refine r_if_lt C (pc := 19) 33 dX0_areNumbers_19 rfl h (fun c19 h => ?_) (fun c19 h => ?_)
      · refine r_sub [] rfl ?_
        exact hk33 h
      · refine r_aload_n C (pc := 22) dX0_areNumbers_22 rfl 0 rfl ?_
        refine r_get C (pc := 23) dX0_areNumbers_23 gf_X0_areNumbers_22 0 rfl rfl ?_
        refine r_iload_n C (pc := 26) dX0_areNumbers_26 rfl 1 rfl ?_
        refine r_iald C (pc := 27) dX0_areNumbers_27 h 2 rfl (fun h => ?_)
        refine r_bipush C (pc := 28) dX0_areNumbers_28 rfl ?_
        refine r_icmp_le C (pc := 30) 35 dX0_areNumbers_30 rfl h (fun c30 h => ?_) (fun c30 h => ?_)
        · refine r_iinc C (pc := 35) dX0_areNumbers_35 1 rfl (by decide) (L' := [(0, .ref a_this), (1, .int (jz (v1_2 + 1)))]) rfl ?_
          refine r_goto C (pc := 38) 2 dX0_areNumbers_38 rfl ?_
          exact hn2 (v1_2 + 1) h
        · refine r_sub [] rfl ?_
          exact hk33 h
theorem c_X0_areNumbers (l : Launch) (G : gG) (a_this : Nat) (a_this_basis : Nat) (a_this_numbers : Nat) (a_this_keys : Nat) (a_this_twos : Nat) (a_this_basis_gaps : Nat) (c_this_followed : Int) (c_this_there : Int) (c_this_held : Int) (c_this_basis_size : Int) (c_this_numbers : Nat → Int) (r : Int) (hf : f_X0_areNumbers c_this_basis_size c_this_numbers = some r) : CTi l yX0_areNumbers wsX0_areNumbers rm_X0_areNumbers G (w_X0_areNumbers G a_this a_this_basis a_this_numbers a_this_keys a_this_twos a_this_basis_gaps c_this_followed c_this_there c_this_held c_this_basis_size c_this_numbers) [.ref a_this] (jz r) (w_X0_areNumbers G a_this a_this_basis a_this_numbers a_this_keys a_this_twos a_this_basis_gaps c_this_followed c_this_there c_this_held c_this_basis_size c_this_numbers) := CTi_of (by decide) rfl rfl (Nat.le_of_ble_eq_true rfl) (fun g C hG hl hF => by
    subst hG
    subst hl
    exact k_X0_areNumbers C a_this a_this_basis a_this_numbers a_this_keys a_this_twos a_this_basis_gaps c_this_followed c_this_there c_this_held c_this_basis_size c_this_numbers (fun x => x = r) (fun r' e => by cases e; exact hF) ⟨_, hf, rfl⟩)

-- TightHulls$Hull.addRoundOfFive(IIII)V
def f_X0_addRoundOfFive (p1 : Int) (p2 : Int) (p3 : Int) (p4 : Int) (c_this_held : Int) (c_this_basis_size : Int) (c_this_basis_gaps : Nat → Int) (c_this_numbers : Nat → Int) (c_this_keys : Nat → Int64) : Option (Int × (Nat → Int) × (Nat → Int64)) := bd1 (f_X4_gap 0 p1 c_this_basis_size c_this_basis_gaps) (fun r6 => bd1 (f_X4_gap p1 p2 c_this_basis_size c_this_basis_gaps) (fun r17 => bd1 (f_X4_gap p2 p3 c_this_basis_size c_this_basis_gaps) (fun r28 => bd1 (f_X4_gap p3 p4 c_this_basis_size c_this_basis_gaps) (fun r40 => bd1 (f_X4_gap p4 0 c_this_basis_size c_this_basis_gaps) (fun r52 => lv (((((r6 - r17) + r28) - r40) + r52)) (fun x76 => grd (iin 0 5) (grd (iin 0 5) (lv (((2 * r6) - ((up c_this_numbers (ix 0) x76) (ix 0)))) (fun x93 => grd (iin p1 5) (grd (iin p1 5) (lv (((2 * r17) - ((up (up c_this_numbers (ix 0) x76) (ix p1) x93) (ix p1)))) (fun x110 => grd (iin p2 5) (grd (iin p2 5) (lv (((2 * r28) - ((up (up (up c_this_numbers (ix 0) x76) (ix p1) x93) (ix p2) x110) (ix p2)))) (fun x127 => grd (iin p3 5) (grd (iin p3 5) (lv (((2 * r40) - ((up (up (up (up c_this_numbers (ix 0) x76) (ix p1) x93) (ix p2) x110) (ix p3) x127) (ix p3)))) (fun x145 => grd (iin p4 5) (bd1 (f_X0_areNumbers c_this_basis_size (up (up (up (up (up c_this_numbers (ix 0) x76) (ix p1) x93) (ix p2) x110) (ix p3) x127) (ix p4) x145)) (fun r147 => jn (fun (this_held_171 : Int) (this_keys_171 : Nat → Int64) => some (this_held_171, (up (up (up (up (up c_this_numbers (ix 0) x76) (ix p1) x93) (ix p2) x110) (ix p3) x127) (ix p4) x145), this_keys_171)) (fun (k171 : Int → (Nat → Int64) → Option (Int × (Nat → Int) × (Nat → Int64))) => if eqI r147 0 = true then (k171 c_this_held c_this_keys) else (bd1 (f_X7_keepApart c_this_basis_size c_this_basis_gaps (up (up (up (up (up c_this_numbers (ix 0) x76) (ix p1) x93) (ix p2) x110) (ix p3) x127) (ix p4) x145)) (fun r161 => if eqI r161 0 = true then (k171 c_this_held c_this_keys) else (bd2 (f_X0_add c_this_held c_this_basis_size (up (up (up (up (up c_this_numbers (ix 0) x76) (ix p1) x93) (ix p2) x110) (ix p3) x127) (ix p4) x145) c_this_keys) (fun this_held_168 this_keys_168 => k171 this_held_168 this_keys_168)))))))))))))))))))))))))
abbrev rm_X0_addRoundOfFive : Room := { frames := 2, cells := 0, slots := 0, locals := 46 }
abbrev w_X0_addRoundOfFive (G : gG) (a_this : Nat) (a_this_basis : Nat) (a_this_numbers : Nat) (a_this_keys : Nat) (a_this_twos : Nat) (a_this_basis_gaps : Nat) (c_this_followed : Int) (c_this_there : Int) (c_this_held : Int) (c_this_basis_size : Int) (c_this_basis_gaps : Nat → Int) (c_this_numbers : Nat → Int) (c_this_keys : Nat → Int64) : va_W := [(a_this, .inr (0, [.ref a_this_basis, .int (jz c_this_followed), .ref a_this_numbers, .ref a_this_keys, .ref a_this_twos, .int (jz c_this_there), .int (jz c_this_held)])), (a_this_basis, .inr (4, [.int (jz c_this_basis_size), .ref a_this_basis_gaps])), (a_this_basis_gaps, aI G 25 c_this_basis_gaps), (a_this_numbers, aI G 5 c_this_numbers), (a_this_keys, aJ G 37 c_this_keys)]
theorem hd_X0_addRoundOfFive : yX0_addRoundOfFive.cls = RX0 ∧ yX0_addRoundOfFive.cls ≠ "java/lang/invoke/MethodHandle" ∧ yX0_addRoundOfFive.cls ≠ "java/lang/invoke/VarHandle" ∧ (parseMethodDescriptor yX0_addRoundOfFive.desc).map (fun d => d.parameters.length) = some 4 := by decide +kernel
theorem in_X0_addRoundOfFive_X0 : ∀ w ∈ u_ws RX0 TX0 7, w ∈ wsX0_addRoundOfFive := fun w h => List.mem_cons_of_mem _ (List.mem_append_left _ (List.mem_append_right _ (h)))
theorem gf_X0_addRoundOfFive_12 : GF wsX0_addRoundOfFive RX0 12 0 0 := ⟨RX0, TX0, 7, rfl, in_X0_addRoundOfFive_X0, by decide, List.mem_of_getElem? (i := 1) rfl⟩
theorem gf_X0_addRoundOfFive_22 : GF wsX0_addRoundOfFive RX0 22 0 2 := ⟨RX0, TX0, 7, rfl, in_X0_addRoundOfFive_X0, by decide, List.mem_of_getElem? (i := 2) rfl⟩
set_option maxRecDepth 100000 in
set_option maxHeartbeats 4000000 in
theorem k_X0_addRoundOfFive {g : XC} (C : XOk g cX0_addRoundOfFive RX0 wsX0_addRoundOfFive rm_X0_addRoundOfFive 10) (a_this : Nat) (a_this_basis : Nat) (a_this_numbers : Nat) (a_this_keys : Nat) (a_this_twos : Nat) (a_this_basis_gaps : Nat) (c_this_followed : Int) (c_this_there : Int) (c_this_held : Int) (c_this_basis_size : Int) (c_this_basis_gaps : Nat → Int) (c_this_numbers : Nat → Int) (c_this_keys : Nat → Int64) (p1 : Int) (p2 : Int) (p3 : Int) (p4 : Int) (K : (Int × (Nat → Int) × (Nat → Int64)) → Prop) (hK : ∀ (o0 : Int) (o1 : Nat → Int) (o2 : Nat → Int64), K (o0, o1, o2) → FinV g 0 0 (w_X0_addRoundOfFive (xG g) a_this a_this_basis a_this_numbers a_this_keys a_this_twos a_this_basis_gaps c_this_followed c_this_there o0 c_this_basis_size c_this_basis_gaps o1 o2)) (h : wp (f_X0_addRoundOfFive p1 p2 p3 p4 c_this_held c_this_basis_size c_this_basis_gaps c_this_numbers c_this_keys) K) : WW g 0 0 (w_X0_addRoundOfFive (xG g) a_this a_this_basis a_this_numbers a_this_keys a_this_twos a_this_basis_gaps c_this_followed c_this_there c_this_held c_this_basis_size c_this_basis_gaps c_this_numbers c_this_keys) 0 [(0, .ref a_this), (1, .int (jz p1)), (2, .int (jz p2)), (3, .int (jz p3)), (4, .int (jz p4))] [] := by
  unfold f_X0_addRoundOfFive at h
  refine r_aload_n C (pc := 0) dX0_addRoundOfFive_0 rfl 0 rfl ?_
  refine r_get C (pc := 1) dX0_addRoundOfFive_1 gf_X0_addRoundOfFive_12 0 rfl rfl ?_
  refine r_iconst C (pc := 4) dX0_addRoundOfFive_4 ?_
  refine r_iload_n C (pc := 5) dX0_addRoundOfFive_5 rfl 1 rfl ?_
  obtain ⟨r6, e6, h⟩ := wp_b1 h
  refine b_cVi C (pc := 6) dX0_addRoundOfFive_6 (c_X4_gap (xl g) (xG g) a_this_basis a_this_basis_gaps c_this_basis_size c_this_basis_gaps 0 p1 r6 e6) rfl gX0_addRoundOfFive_X4_gap ⟨rfl, rfl⟩ 2 hd_X4_gap ⟨Nat.le_of_ble_eq_true rfl, Nat.le_of_ble_eq_true rfl⟩ rfl 1 rfl rfl rfl [1, 2] rfl (srt_nd 0 rfl) (ws' := w_X0_addRoundOfFive (xG g) a_this a_this_basis a_this_numbers a_this_keys a_this_twos a_this_basis_gaps c_this_followed c_this_there c_this_held c_this_basis_size c_this_basis_gaps c_this_numbers c_this_keys) (Put.m rfl rfl rfl) rfl (rest := []) rfl (Nat.le_of_ble_eq_true rfl) ⟨Nat.zero_le _, Nat.zero_le _⟩ ?_
  refine r_istore C (pc := 9) dX0_addRoundOfFive_9 (by decide) (L' := [(0, .ref a_this), (1, .int (jz p1)), (2, .int (jz p2)), (3, .int (jz p3)), (4, .int (jz p4)), (5, .int (jz r6))]) rfl ?_
  refine r_aload_n C (pc := 11) dX0_addRoundOfFive_11 rfl 0 rfl ?_
  refine r_get C (pc := 12) dX0_addRoundOfFive_12 gf_X0_addRoundOfFive_12 0 rfl rfl ?_
  refine r_iload_n C (pc := 15) dX0_addRoundOfFive_15 rfl 1 rfl ?_
  refine r_iload_n C (pc := 16) dX0_addRoundOfFive_16 rfl 2 rfl ?_
  obtain ⟨r17, e17, h⟩ := wp_b1 h
  refine b_cVi C (pc := 17) dX0_addRoundOfFive_17 (c_X4_gap (xl g) (xG g) a_this_basis a_this_basis_gaps c_this_basis_size c_this_basis_gaps p1 p2 r17 e17) rfl gX0_addRoundOfFive_X4_gap ⟨rfl, rfl⟩ 2 hd_X4_gap ⟨Nat.le_of_ble_eq_true rfl, Nat.le_of_ble_eq_true rfl⟩ rfl 1 rfl rfl rfl [1, 2] rfl (srt_nd 0 rfl) (ws' := w_X0_addRoundOfFive (xG g) a_this a_this_basis a_this_numbers a_this_keys a_this_twos a_this_basis_gaps c_this_followed c_this_there c_this_held c_this_basis_size c_this_basis_gaps c_this_numbers c_this_keys) (Put.m rfl rfl rfl) rfl (rest := []) rfl (Nat.le_of_ble_eq_true rfl) ⟨Nat.zero_le _, Nat.zero_le _⟩ ?_
  refine r_istore C (pc := 20) dX0_addRoundOfFive_20 (by decide) (L' := [(0, .ref a_this), (1, .int (jz p1)), (2, .int (jz p2)), (3, .int (jz p3)), (4, .int (jz p4)), (5, .int (jz r6)), (6, .int (jz r17))]) rfl ?_
  refine r_aload_n C (pc := 22) dX0_addRoundOfFive_22 rfl 0 rfl ?_
  refine r_get C (pc := 23) dX0_addRoundOfFive_23 gf_X0_addRoundOfFive_12 0 rfl rfl ?_
  refine r_iload_n C (pc := 26) dX0_addRoundOfFive_26 rfl 2 rfl ?_
  refine r_iload_n C (pc := 27) dX0_addRoundOfFive_27 rfl 3 rfl ?_
  obtain ⟨r28, e28, h⟩ := wp_b1 h
  refine b_cVi C (pc := 28) dX0_addRoundOfFive_28 (c_X4_gap (xl g) (xG g) a_this_basis a_this_basis_gaps c_this_basis_size c_this_basis_gaps p2 p3 r28 e28) rfl gX0_addRoundOfFive_X4_gap ⟨rfl, rfl⟩ 2 hd_X4_gap ⟨Nat.le_of_ble_eq_true rfl, Nat.le_of_ble_eq_true rfl⟩ rfl 1 rfl rfl rfl [1, 2] rfl (srt_nd 0 rfl) (ws' := w_X0_addRoundOfFive (xG g) a_this a_this_basis a_this_numbers a_this_keys a_this_twos a_this_basis_gaps c_this_followed c_this_there c_this_held c_this_basis_size c_this_basis_gaps c_this_numbers c_this_keys) (Put.m rfl rfl rfl) rfl (rest := []) rfl (Nat.le_of_ble_eq_true rfl) ⟨Nat.zero_le _, Nat.zero_le _⟩ ?_
  refine r_istore C (pc := 31) dX0_addRoundOfFive_31 (by decide) (L' := [(0, .ref a_this), (1, .int (jz p1)), (2, .int (jz p2)), (3, .int (jz p3)), (4, .int (jz p4)), (5, .int (jz r6)), (6, .int (jz r17)), (7, .int (jz r28))]) rfl ?_
  refine r_aload_n C (pc := 33) dX0_addRoundOfFive_33 rfl 0 rfl ?_
  refine r_get C (pc := 34) dX0_addRoundOfFive_34 gf_X0_addRoundOfFive_12 0 rfl rfl ?_
  refine r_iload_n C (pc := 37) dX0_addRoundOfFive_37 rfl 3 rfl ?_
  refine r_iload C (pc := 38) dX0_addRoundOfFive_38 4 rfl ?_
  obtain ⟨r40, e40, h⟩ := wp_b1 h
  refine b_cVi C (pc := 40) dX0_addRoundOfFive_40 (c_X4_gap (xl g) (xG g) a_this_basis a_this_basis_gaps c_this_basis_size c_this_basis_gaps p3 p4 r40 e40) rfl gX0_addRoundOfFive_X4_gap ⟨rfl, rfl⟩ 2 hd_X4_gap ⟨Nat.le_of_ble_eq_true rfl, Nat.le_of_ble_eq_true rfl⟩ rfl 1 rfl rfl rfl [1, 2] rfl (srt_nd 0 rfl) (ws' := w_X0_addRoundOfFive (xG g) a_this a_this_basis a_this_numbers a_this_keys a_this_twos a_this_basis_gaps c_this_followed c_this_there c_this_held c_this_basis_size c_this_basis_gaps c_this_numbers c_this_keys) (Put.m rfl rfl rfl) rfl (rest := []) rfl (Nat.le_of_ble_eq_true rfl) ⟨Nat.zero_le _, Nat.zero_le _⟩ ?_
  refine r_istore C (pc := 43) dX0_addRoundOfFive_43 (by decide) (L' := [(0, .ref a_this), (1, .int (jz p1)), (2, .int (jz p2)), (3, .int (jz p3)), (4, .int (jz p4)), (5, .int (jz r6)), (6, .int (jz r17)), (7, .int (jz r28)), (8, .int (jz r40))]) rfl ?_
  refine r_aload_n C (pc := 45) dX0_addRoundOfFive_45 rfl 0 rfl ?_
  refine r_get C (pc := 46) dX0_addRoundOfFive_46 gf_X0_addRoundOfFive_12 0 rfl rfl ?_
  refine r_iload C (pc := 49) dX0_addRoundOfFive_49 4 rfl ?_
  refine r_iconst C (pc := 51) dX0_addRoundOfFive_51 ?_
  obtain ⟨r52, e52, h⟩ := wp_b1 h
  refine b_cVi C (pc := 52) dX0_addRoundOfFive_52 (c_X4_gap (xl g) (xG g) a_this_basis a_this_basis_gaps c_this_basis_size c_this_basis_gaps p4 0 r52 e52) rfl gX0_addRoundOfFive_X4_gap ⟨rfl, rfl⟩ 2 hd_X4_gap ⟨Nat.le_of_ble_eq_true rfl, Nat.le_of_ble_eq_true rfl⟩ rfl 1 rfl rfl rfl [1, 2] rfl (srt_nd 0 rfl) (ws' := w_X0_addRoundOfFive (xG g) a_this a_this_basis a_this_numbers a_this_keys a_this_twos a_this_basis_gaps c_this_followed c_this_there c_this_held c_this_basis_size c_this_basis_gaps c_this_numbers c_this_keys) (Put.m rfl rfl rfl) rfl (rest := []) rfl (Nat.le_of_ble_eq_true rfl) ⟨Nat.zero_le _, Nat.zero_le _⟩ ?_
  refine r_istore C (pc := 55) dX0_addRoundOfFive_55 (by decide) (L' := [(0, .ref a_this), (1, .int (jz p1)), (2, .int (jz p2)), (3, .int (jz p3)), (4, .int (jz p4)), (5, .int (jz r6)), (6, .int (jz r17)), (7, .int (jz r28)), (8, .int (jz r40)), (9, .int (jz r52))]) rfl ?_
  refine r_aload_n C (pc := 57) dX0_addRoundOfFive_57 rfl 0 rfl ?_
  refine r_get C (pc := 58) dX0_addRoundOfFive_58 gf_X0_addRoundOfFive_22 0 rfl rfl ?_
  refine r_iconst C (pc := 61) dX0_addRoundOfFive_61 ?_
  refine r_iload C (pc := 62) dX0_addRoundOfFive_62 5 rfl ?_
  refine r_iload C (pc := 64) dX0_addRoundOfFive_64 6 rfl ?_
  refine r_isub C (pc := 66) dX0_addRoundOfFive_66 ?_
  refine r_iload C (pc := 67) dX0_addRoundOfFive_67 7 rfl ?_
  refine r_iadd C (pc := 69) dX0_addRoundOfFive_69 ?_
  refine r_iload C (pc := 70) dX0_addRoundOfFive_70 8 rfl ?_
  refine r_isub C (pc := 72) dX0_addRoundOfFive_72 ?_
  refine r_iload C (pc := 73) dX0_addRoundOfFive_73 9 rfl ?_
  refine r_iadd C (pc := 75) dX0_addRoundOfFive_75 ?_
  refine r_let h (fun x76 h => ?_)
  refine r_iast C (pc := 76) dX0_addRoundOfFive_76 h 3 rfl (ws' := w_X0_addRoundOfFive (xG g) a_this a_this_basis a_this_numbers a_this_keys a_this_twos a_this_basis_gaps c_this_followed c_this_there c_this_held c_this_basis_size c_this_basis_gaps (up c_this_numbers (ix 0) x76) c_this_keys) rfl (fun h => ?_)
  refine r_aload_n C (pc := 77) dX0_addRoundOfFive_77 rfl 0 rfl ?_
  refine r_get C (pc := 78) dX0_addRoundOfFive_78 gf_X0_addRoundOfFive_22 0 rfl rfl ?_
  refine r_iload_n C (pc := 81) dX0_addRoundOfFive_81 rfl 1 rfl ?_
  refine r_iconst C (pc := 82) dX0_addRoundOfFive_82 ?_
  refine r_iload C (pc := 83) dX0_addRoundOfFive_83 5 rfl ?_
  refine r_imul C (pc := 85) dX0_addRoundOfFive_85 ?_
  refine r_aload_n C (pc := 86) dX0_addRoundOfFive_86 rfl 0 rfl ?_
  refine r_get C (pc := 87) dX0_addRoundOfFive_87 gf_X0_addRoundOfFive_22 0 rfl rfl ?_
  refine r_iconst C (pc := 90) dX0_addRoundOfFive_90 ?_
  refine r_iald C (pc := 91) dX0_addRoundOfFive_91 h 3 rfl (fun h => ?_)
  refine r_isub C (pc := 92) dX0_addRoundOfFive_92 ?_
  refine r_let h (fun x93 h => ?_)
  refine r_iast C (pc := 93) dX0_addRoundOfFive_93 h 3 rfl (ws' := w_X0_addRoundOfFive (xG g) a_this a_this_basis a_this_numbers a_this_keys a_this_twos a_this_basis_gaps c_this_followed c_this_there c_this_held c_this_basis_size c_this_basis_gaps (up (up c_this_numbers (ix 0) x76) (ix p1) x93) c_this_keys) rfl (fun h => ?_)
  refine r_aload_n C (pc := 94) dX0_addRoundOfFive_94 rfl 0 rfl ?_
  refine r_get C (pc := 95) dX0_addRoundOfFive_95 gf_X0_addRoundOfFive_22 0 rfl rfl ?_
  refine r_iload_n C (pc := 98) dX0_addRoundOfFive_98 rfl 2 rfl ?_
  refine r_iconst C (pc := 99) dX0_addRoundOfFive_99 ?_
  refine r_iload C (pc := 100) dX0_addRoundOfFive_100 6 rfl ?_
  refine r_imul C (pc := 102) dX0_addRoundOfFive_102 ?_
  refine r_aload_n C (pc := 103) dX0_addRoundOfFive_103 rfl 0 rfl ?_
  refine r_get C (pc := 104) dX0_addRoundOfFive_104 gf_X0_addRoundOfFive_22 0 rfl rfl ?_
  refine r_iload_n C (pc := 107) dX0_addRoundOfFive_107 rfl 1 rfl ?_
  refine r_iald C (pc := 108) dX0_addRoundOfFive_108 h 3 rfl (fun h => ?_)
  refine r_isub C (pc := 109) dX0_addRoundOfFive_109 ?_
  refine r_let h (fun x110 h => ?_)
  refine r_iast C (pc := 110) dX0_addRoundOfFive_110 h 3 rfl (ws' := w_X0_addRoundOfFive (xG g) a_this a_this_basis a_this_numbers a_this_keys a_this_twos a_this_basis_gaps c_this_followed c_this_there c_this_held c_this_basis_size c_this_basis_gaps (up (up (up c_this_numbers (ix 0) x76) (ix p1) x93) (ix p2) x110) c_this_keys) rfl (fun h => ?_)
  refine r_aload_n C (pc := 111) dX0_addRoundOfFive_111 rfl 0 rfl ?_
  refine r_get C (pc := 112) dX0_addRoundOfFive_112 gf_X0_addRoundOfFive_22 0 rfl rfl ?_
  refine r_iload_n C (pc := 115) dX0_addRoundOfFive_115 rfl 3 rfl ?_
  refine r_iconst C (pc := 116) dX0_addRoundOfFive_116 ?_
  refine r_iload C (pc := 117) dX0_addRoundOfFive_117 7 rfl ?_
  refine r_imul C (pc := 119) dX0_addRoundOfFive_119 ?_
  refine r_aload_n C (pc := 120) dX0_addRoundOfFive_120 rfl 0 rfl ?_
  refine r_get C (pc := 121) dX0_addRoundOfFive_121 gf_X0_addRoundOfFive_22 0 rfl rfl ?_
  refine r_iload_n C (pc := 124) dX0_addRoundOfFive_124 rfl 2 rfl ?_
  refine r_iald C (pc := 125) dX0_addRoundOfFive_125 h 3 rfl (fun h => ?_)
  refine r_isub C (pc := 126) dX0_addRoundOfFive_126 ?_
  refine r_let h (fun x127 h => ?_)
  refine r_iast C (pc := 127) dX0_addRoundOfFive_127 h 3 rfl (ws' := w_X0_addRoundOfFive (xG g) a_this a_this_basis a_this_numbers a_this_keys a_this_twos a_this_basis_gaps c_this_followed c_this_there c_this_held c_this_basis_size c_this_basis_gaps (up (up (up (up c_this_numbers (ix 0) x76) (ix p1) x93) (ix p2) x110) (ix p3) x127) c_this_keys) rfl (fun h => ?_)
  refine r_aload_n C (pc := 128) dX0_addRoundOfFive_128 rfl 0 rfl ?_
  refine r_get C (pc := 129) dX0_addRoundOfFive_129 gf_X0_addRoundOfFive_22 0 rfl rfl ?_
  refine r_iload C (pc := 132) dX0_addRoundOfFive_132 4 rfl ?_
  refine r_iconst C (pc := 134) dX0_addRoundOfFive_134 ?_
  refine r_iload C (pc := 135) dX0_addRoundOfFive_135 8 rfl ?_
  refine r_imul C (pc := 137) dX0_addRoundOfFive_137 ?_
  refine r_aload_n C (pc := 138) dX0_addRoundOfFive_138 rfl 0 rfl ?_
  refine r_get C (pc := 139) dX0_addRoundOfFive_139 gf_X0_addRoundOfFive_22 0 rfl rfl ?_
  refine r_iload_n C (pc := 142) dX0_addRoundOfFive_142 rfl 3 rfl ?_
  refine r_iald C (pc := 143) dX0_addRoundOfFive_143 h 3 rfl (fun h => ?_)
  refine r_isub C (pc := 144) dX0_addRoundOfFive_144 ?_
  refine r_let h (fun x145 h => ?_)
  refine r_iast C (pc := 145) dX0_addRoundOfFive_145 h 3 rfl (ws' := w_X0_addRoundOfFive (xG g) a_this a_this_basis a_this_numbers a_this_keys a_this_twos a_this_basis_gaps c_this_followed c_this_there c_this_held c_this_basis_size c_this_basis_gaps (up (up (up (up (up c_this_numbers (ix 0) x76) (ix p1) x93) (ix p2) x110) (ix p3) x127) (ix p4) x145) c_this_keys) rfl (fun h => ?_)
  refine r_aload_n C (pc := 146) dX0_addRoundOfFive_146 rfl 0 rfl ?_
  obtain ⟨r147, e147, h⟩ := wp_b1 h
  refine b_cVi C (pc := 147) dX0_addRoundOfFive_147 (c_X0_areNumbers (xl g) (xG g) a_this a_this_basis a_this_numbers a_this_keys a_this_twos a_this_basis_gaps c_this_followed c_this_there c_this_held c_this_basis_size (up (up (up (up (up c_this_numbers (ix 0) x76) (ix p1) x93) (ix p2) x110) (ix p3) x127) (ix p4) x145) r147 e147) rfl gX0_addRoundOfFive_X0_areNumbers ⟨rfl, rfl⟩ 0 hd_X0_areNumbers ⟨Nat.le_of_ble_eq_true rfl, Nat.le_of_ble_eq_true rfl⟩ rfl 0 rfl rfl rfl [0, 1, 3] rfl (srt_nd 0 rfl) (ws' := w_X0_addRoundOfFive (xG g) a_this a_this_basis a_this_numbers a_this_keys a_this_twos a_this_basis_gaps c_this_followed c_this_there c_this_held c_this_basis_size c_this_basis_gaps (up (up (up (up (up c_this_numbers (ix 0) x76) (ix p1) x93) (ix p2) x110) (ix p3) x127) (ix p4) x145) c_this_keys) (Put.m rfl rfl rfl) rfl (rest := []) rfl (Nat.le_of_ble_eq_true rfl) ⟨Nat.zero_le _, Nat.zero_le _⟩ ?_
  refine jn_e (fun (k171 : Int → (Nat → Int64) → Option (Int × (Nat → Int) × (Nat → Int64))) => ∀ (this_held_171 : Int) (this_keys_171 : Nat → Int64), wp (k171 this_held_171 this_keys_171) K → WW g 0 0 (w_X0_addRoundOfFive (xG g) a_this a_this_basis a_this_numbers a_this_keys a_this_twos a_this_basis_gaps c_this_followed c_this_there this_held_171 c_this_basis_size c_this_basis_gaps (up (up (up (up (up c_this_numbers (ix 0) x76) (ix p1) x93) (ix p2) x110) (ix p3) x127) (ix p4) x145) this_keys_171) 171 [] []) h (fun this_held_171 this_keys_171 h => ?_) (fun k171 hk171 h => ?_)
  · exact r_vret C (pc := 171) dX0_addRoundOfFive_171 (hK this_held_171 (up (up (up (up (up c_this_numbers (ix 0) x76) (ix p1) x93) (ix p2) x110) (ix p3) x127) (ix p4) x145) this_keys_171 (wp_s h))
  · refine r_if_eq C (pc := 150) 171 dX0_addRoundOfFive_150 rfl h (fun c150 h => ?_) (fun c150 h => ?_)
    · refine r_sub [] rfl ?_
      exact hk171 c_this_held c_this_keys h
    · refine r_aload_n C (pc := 153) dX0_addRoundOfFive_153 rfl 0 rfl ?_
      refine r_get C (pc := 154) dX0_addRoundOfFive_154 gf_X0_addRoundOfFive_12 0 rfl rfl ?_
      refine r_aload_n C (pc := 157) dX0_addRoundOfFive_157 rfl 0 rfl ?_
      refine r_get C (pc := 158) dX0_addRoundOfFive_158 gf_X0_addRoundOfFive_22 0 rfl rfl ?_
      obtain ⟨r161, e161, h⟩ := wp_b1 h
      refine b_cSi C (pc := 161) dX0_addRoundOfFive_161 (c_X7_keepApart (xl g) (xG g) a_this_basis a_this_basis_gaps a_this_numbers c_this_basis_size c_this_basis_gaps (up (up (up (up (up c_this_numbers (ix 0) x76) (ix p1) x93) (ix p2) x110) (ix p3) x127) (ix p4) x145) r161 e161) rfl gX0_addRoundOfFive_X7_keepApart ⟨rfl, rfl⟩ 2 hd_X7_keepApart ⟨Nat.le_of_ble_eq_true rfl, Nat.le_of_ble_eq_true rfl⟩ rfl [1, 2, 3] rfl (srt_nd 0 rfl) (ws' := w_X0_addRoundOfFive (xG g) a_this a_this_basis a_this_numbers a_this_keys a_this_twos a_this_basis_gaps c_this_followed c_this_there c_this_held c_this_basis_size c_this_basis_gaps (up (up (up (up (up c_this_numbers (ix 0) x76) (ix p1) x93) (ix p2) x110) (ix p3) x127) (ix p4) x145) c_this_keys) (Put.m rfl rfl rfl) rfl (rest := []) rfl (Nat.le_of_ble_eq_true rfl) ⟨Nat.zero_le _, Nat.zero_le _⟩ ?_
      refine r_if_eq C (pc := 164) 171 dX0_addRoundOfFive_164 rfl h (fun c164 h => ?_) (fun c164 h => ?_)
      · refine r_sub [] rfl ?_
        exact hk171 c_this_held c_this_keys h
      · refine r_aload_n C (pc := 167) dX0_addRoundOfFive_167 rfl 0 rfl ?_
        obtain ⟨this_held_168, this_keys_168, e168, h⟩ := wp_b2 h
        refine b_cVv C (pc := 168) dX0_addRoundOfFive_168 (c_X0_add (xl g) (xG g) a_this a_this_basis a_this_numbers a_this_keys a_this_twos a_this_basis_gaps c_this_followed c_this_there c_this_held c_this_basis_size (up (up (up (up (up c_this_numbers (ix 0) x76) (ix p1) x93) (ix p2) x110) (ix p3) x127) (ix p4) x145) c_this_keys this_held_168 this_keys_168 e168) rfl gX0_addRoundOfFive_X0_add ⟨rfl, rfl⟩ 0 hd_X0_add ⟨Nat.le_of_ble_eq_true rfl, Nat.le_of_ble_eq_true rfl⟩ rfl 0 rfl rfl rfl [0, 1, 3, 4] rfl (srt_nd 0 rfl) (ws' := w_X0_addRoundOfFive (xG g) a_this a_this_basis a_this_numbers a_this_keys a_this_twos a_this_basis_gaps c_this_followed c_this_there this_held_168 c_this_basis_size c_this_basis_gaps (up (up (up (up (up c_this_numbers (ix 0) x76) (ix p1) x93) (ix p2) x110) (ix p3) x127) (ix p4) x145) this_keys_168) (Put.m rfl rfl rfl) rfl (rest := []) rfl (Nat.le_of_ble_eq_true rfl) ⟨Nat.zero_le _, Nat.zero_le _⟩ ?_
        refine r_sub [] rfl ?_
        exact hk171 this_held_168 this_keys_168 h
theorem c_X0_addRoundOfFive (l : Launch) (G : gG) (a_this : Nat) (a_this_basis : Nat) (a_this_numbers : Nat) (a_this_keys : Nat) (a_this_twos : Nat) (a_this_basis_gaps : Nat) (c_this_followed : Int) (c_this_there : Int) (c_this_held : Int) (c_this_basis_size : Int) (c_this_basis_gaps : Nat → Int) (c_this_numbers : Nat → Int) (c_this_keys : Nat → Int64) (p1 : Int) (p2 : Int) (p3 : Int) (p4 : Int) (o0 : Int) (o1 : Nat → Int) (o2 : Nat → Int64) (hf : f_X0_addRoundOfFive p1 p2 p3 p4 c_this_held c_this_basis_size c_this_basis_gaps c_this_numbers c_this_keys = some (o0, o1, o2)) : CTv l yX0_addRoundOfFive wsX0_addRoundOfFive rm_X0_addRoundOfFive G (w_X0_addRoundOfFive G a_this a_this_basis a_this_numbers a_this_keys a_this_twos a_this_basis_gaps c_this_followed c_this_there c_this_held c_this_basis_size c_this_basis_gaps c_this_numbers c_this_keys) [.ref a_this, .int (jz p1), .int (jz p2), .int (jz p3), .int (jz p4)] (w_X0_addRoundOfFive G a_this a_this_basis a_this_numbers a_this_keys a_this_twos a_this_basis_gaps c_this_followed c_this_there o0 c_this_basis_size c_this_basis_gaps o1 o2) := CTv_of (by decide) rfl rfl (Nat.le_of_ble_eq_true rfl) (fun g C hG hl hF => by
    subst hG
    subst hl
    exact k_X0_addRoundOfFive C a_this a_this_basis a_this_numbers a_this_keys a_this_twos a_this_basis_gaps c_this_followed c_this_there c_this_held c_this_basis_size c_this_basis_gaps c_this_numbers c_this_keys p1 p2 p3 p4 (fun x => x = (o0, o1, o2)) (fun o0' o1' o2' e => by cases e; exact hF) ⟨_, hf, rfl⟩)

-- TightHulls$Hull.addRoundsOfFive()V
def f_X0_addRoundsOfFive (c_this_held : Int) (c_this_basis_size : Int) (c_this_basis_gaps : Nat → Int) (c_this_numbers : Nat → Int) (c_this_keys : Nat → Int64) : Option (Int × (Nat → Int) × (Nat → Int64)) := if ltI c_this_basis_size 5 = true then (some (c_this_held, c_this_numbers, c_this_keys)) else (lq4 (fun (n14 : Int → Int → (Nat → Int) → (Nat → Int64) → Option (Int × (Nat → Int) × (Nat → Int64))) (v1_14 : Int) (this_held_14 : Int) (this_numbers_14 : Nat → Int) (this_keys_14 : Nat → Int64) => if ltI v1_14 5 = true then (lq4 (fun (n21 : Int → Int → (Nat → Int) → (Nat → Int64) → Option (Int × (Nat → Int) × (Nat → Int64))) (v2_21 : Int) (this_held_21 : Int) (this_numbers_21 : Nat → Int) (this_keys_21 : Nat → Int64) => if ltI v2_21 5 = true then (lq4 (fun (n28 : Int → Int → (Nat → Int) → (Nat → Int64) → Option (Int × (Nat → Int) × (Nat → Int64))) (v3_28 : Int) (this_held_28 : Int) (this_numbers_28 : Nat → Int) (this_keys_28 : Nat → Int64) => if ltI v3_28 5 = true then (lv ((((10 - v1_14) - v2_21) - v3_28)) (fun x41 => jn (fun (this_held_73 : Int) (this_numbers_73 : Nat → Int) (this_keys_73 : Nat → Int64) => n28 (v3_28 + 1) this_held_73 this_numbers_73 this_keys_73) (fun (k73 : Int → (Nat → Int) → (Nat → Int64) → Option (Int × (Nat → Int) × (Nat → Int64))) => if eqI v1_14 v2_21 = true then (k73 this_held_28 this_numbers_28 this_keys_28) else (if eqI v1_14 v3_28 = true then (k73 this_held_28 this_numbers_28 this_keys_28) else (if eqI v2_21 v3_28 = true then (k73 this_held_28 this_numbers_28 this_keys_28) else (if ltI v1_14 x41 = true then (bd3 (f_X0_addRoundOfFive v1_14 v2_21 v3_28 x41 this_held_28 c_this_basis_size c_this_basis_gaps this_numbers_28 this_keys_28) (fun this_held_70 this_numbers_70 this_keys_70 => k73 this_held_70 this_numbers_70 this_keys_70)) else (k73 this_held_28 this_numbers_28 this_keys_28))))))) else (n21 (v2_21 + 1) this_held_28 this_numbers_28 this_keys_28)) 300 1 this_held_21 this_numbers_21 this_keys_21) else (n14 (v1_14 + 1) this_held_21 this_numbers_21 this_keys_21)) 300 1 this_held_14 this_numbers_14 this_keys_14) else (some (this_held_14, this_numbers_14, this_keys_14))) 300 1 c_this_held c_this_numbers c_this_keys)
abbrev rm_X0_addRoundsOfFive : Room := { frames := 3, cells := 0, slots := 0, locals := 75 }
abbrev w_X0_addRoundsOfFive (G : gG) (a_this : Nat) (a_this_basis : Nat) (a_this_numbers : Nat) (a_this_keys : Nat) (a_this_twos : Nat) (a_this_basis_gaps : Nat) (c_this_followed : Int) (c_this_there : Int) (c_this_held : Int) (c_this_basis_size : Int) (c_this_basis_gaps : Nat → Int) (c_this_numbers : Nat → Int) (c_this_keys : Nat → Int64) : va_W := [(a_this, .inr (0, [.ref a_this_basis, .int (jz c_this_followed), .ref a_this_numbers, .ref a_this_keys, .ref a_this_twos, .int (jz c_this_there), .int (jz c_this_held)])), (a_this_basis, .inr (4, [.int (jz c_this_basis_size), .ref a_this_basis_gaps])), (a_this_basis_gaps, aI G 25 c_this_basis_gaps), (a_this_numbers, aI G 5 c_this_numbers), (a_this_keys, aJ G 37 c_this_keys)]
theorem hd_X0_addRoundsOfFive : yX0_addRoundsOfFive.cls = RX0 ∧ yX0_addRoundsOfFive.cls ≠ "java/lang/invoke/MethodHandle" ∧ yX0_addRoundsOfFive.cls ≠ "java/lang/invoke/VarHandle" ∧ (parseMethodDescriptor yX0_addRoundsOfFive.desc).map (fun d => d.parameters.length) = some 0 := by decide +kernel
theorem in_X0_addRoundsOfFive_X0 : ∀ w ∈ u_ws RX0 TX0 7, w ∈ wsX0_addRoundsOfFive := fun w h => List.mem_cons_of_mem _ (List.mem_append_left _ (List.mem_append_right _ (h)))
theorem gf_X0_addRoundsOfFive_12 : GF wsX0_addRoundsOfFive RX0 12 0 0 := ⟨RX0, TX0, 7, rfl, in_X0_addRoundsOfFive_X0, by decide, List.mem_of_getElem? (i := 1) rfl⟩
theorem in_X0_addRoundsOfFive_X4 : ∀ w ∈ u_ws RX4 TX4 2, w ∈ wsX0_addRoundsOfFive := fun w h => List.mem_cons_of_mem _ (List.mem_append_right _ (h))
theorem gf_X0_addRoundsOfFive_64 : GF wsX0_addRoundsOfFive RX0 64 4 0 := ⟨RX4, TX4, 2, rfl, in_X0_addRoundsOfFive_X4, by decide, List.mem_of_getElem? (i := 2) rfl⟩
set_option maxRecDepth 100000 in
set_option maxHeartbeats 4000000 in
theorem k_X0_addRoundsOfFive {g : XC} (C : XOk g cX0_addRoundsOfFive RX0 wsX0_addRoundsOfFive rm_X0_addRoundsOfFive 5) (a_this : Nat) (a_this_basis : Nat) (a_this_numbers : Nat) (a_this_keys : Nat) (a_this_twos : Nat) (a_this_basis_gaps : Nat) (c_this_followed : Int) (c_this_there : Int) (c_this_held : Int) (c_this_basis_size : Int) (c_this_basis_gaps : Nat → Int) (c_this_numbers : Nat → Int) (c_this_keys : Nat → Int64)  (K : (Int × (Nat → Int) × (Nat → Int64)) → Prop) (hK : ∀ (o0 : Int) (o1 : Nat → Int) (o2 : Nat → Int64), K (o0, o1, o2) → FinV g 0 0 (w_X0_addRoundsOfFive (xG g) a_this a_this_basis a_this_numbers a_this_keys a_this_twos a_this_basis_gaps c_this_followed c_this_there o0 c_this_basis_size c_this_basis_gaps o1 o2)) (h : wp (f_X0_addRoundsOfFive c_this_held c_this_basis_size c_this_basis_gaps c_this_numbers c_this_keys) K) : WW g 0 0 (w_X0_addRoundsOfFive (xG g) a_this a_this_basis a_this_numbers a_this_keys a_this_twos a_this_basis_gaps c_this_followed c_this_there c_this_held c_this_basis_size c_this_basis_gaps c_this_numbers c_this_keys) 0 [(0, .ref a_this)] [] := by
  unfold f_X0_addRoundsOfFive at h
  refine r_aload_n C (pc := 0) dX0_addRoundsOfFive_0 rfl 0 rfl ?_
  refine r_get C (pc := 1) dX0_addRoundsOfFive_1 gf_X0_addRoundsOfFive_12 0 rfl rfl ?_
  refine r_get C (pc := 4) dX0_addRoundsOfFive_4 gf_X0_addRoundsOfFive_64 1 rfl rfl ?_
  refine r_iconst C (pc := 7) dX0_addRoundsOfFive_7 ?_
  refine r_icmp_ge C (pc := 8) 12 dX0_addRoundsOfFive_8 rfl h (fun c8 h => ?_) (fun c8 h => ?_)
  · refine r_iconst C (pc := 12) dX0_addRoundsOfFive_12 ?_
    refine r_istore_n C (pc := 13) dX0_addRoundsOfFive_13 rfl (by decide) (L' := [(0, .ref a_this), (1, .int (jz 1))]) rfl ?_
    refine lq4_e (fun (v1_14 : Int) (this_held_14 : Int) (this_numbers_14 : Nat → Int) (this_keys_14 : Nat → Int64) => WW g 0 0 (w_X0_addRoundsOfFive (xG g) a_this a_this_basis a_this_numbers a_this_keys a_this_twos a_this_basis_gaps c_this_followed c_this_there this_held_14 c_this_basis_size c_this_basis_gaps this_numbers_14 this_keys_14) 14 [(0, .ref a_this), (1, .int (jz v1_14))] []) h (fun n14 hn14 v1_14 this_held_14 this_numbers_14 this_keys_14 h => ?_)
    refine r_iload_n C (pc := 14) dX0_addRoundsOfFive_14 rfl 1 rfl ?_
    refine r_iconst C (pc := 15) dX0_addRoundsOfFive_15 ?_
    refine r_icmp_ge C (pc := 16) 91 dX0_addRoundsOfFive_16 rfl h (fun c16 h => ?_) (fun c16 h => ?_)
    · exact r_vret C (pc := 91) dX0_addRoundsOfFive_91 (hK this_held_14 this_numbers_14 this_keys_14 (wp_s h))
    · refine r_iconst C (pc := 19) dX0_addRoundsOfFive_19 ?_
      refine r_istore_n C (pc := 20) dX0_addRoundsOfFive_20 rfl (by decide) (L' := [(0, .ref a_this), (1, .int (jz v1_14)), (2, .int (jz 1))]) rfl ?_
      refine lq4_e (fun (v2_21 : Int) (this_held_21 : Int) (this_numbers_21 : Nat → Int) (this_keys_21 : Nat → Int64) => WW g 0 0 (w_X0_addRoundsOfFive (xG g) a_this a_this_basis a_this_numbers a_this_keys a_this_twos a_this_basis_gaps c_this_followed c_this_there this_held_21 c_this_basis_size c_this_basis_gaps this_numbers_21 this_keys_21) 21 [(0, .ref a_this), (1, .int (jz v1_14)), (2, .int (jz v2_21))] []) h (fun n21 hn21 v2_21 this_held_21 this_numbers_21 this_keys_21 h => ?_)
      refine r_iload_n C (pc := 21) dX0_addRoundsOfFive_21 rfl 2 rfl ?_
      refine r_iconst C (pc := 22) dX0_addRoundsOfFive_22 ?_
      refine r_icmp_ge C (pc := 23) 85 dX0_addRoundsOfFive_23 rfl h (fun c23 h => ?_) (fun c23 h => ?_)
      · refine r_iinc C (pc := 85) dX0_addRoundsOfFive_85 1 rfl (by decide) (L' := [(0, .ref a_this), (1, .int (jz (v1_14 + 1))), (2, .int (jz v2_21))]) rfl ?_
        refine r_goto C (pc := 88) 14 dX0_addRoundsOfFive_88 rfl ?_
        refine r_sub [0, 1] rfl ?_
        exact hn14 (v1_14 + 1) this_held_21 this_numbers_21 this_keys_21 h
      · refine r_iconst C (pc := 26) dX0_addRoundsOfFive_26 ?_
        refine r_istore_n C (pc := 27) dX0_addRoundsOfFive_27 rfl (by decide) (L' := [(0, .ref a_this), (1, .int (jz v1_14)), (2, .int (jz v2_21)), (3, .int (jz 1))]) rfl ?_
        refine lq4_e (fun (v3_28 : Int) (this_held_28 : Int) (this_numbers_28 : Nat → Int) (this_keys_28 : Nat → Int64) => WW g 0 0 (w_X0_addRoundsOfFive (xG g) a_this a_this_basis a_this_numbers a_this_keys a_this_twos a_this_basis_gaps c_this_followed c_this_there this_held_28 c_this_basis_size c_this_basis_gaps this_numbers_28 this_keys_28) 28 [(0, .ref a_this), (1, .int (jz v1_14)), (2, .int (jz v2_21)), (3, .int (jz v3_28))] []) h (fun n28 hn28 v3_28 this_held_28 this_numbers_28 this_keys_28 h => ?_)
        refine r_iload_n C (pc := 28) dX0_addRoundsOfFive_28 rfl 3 rfl ?_
        refine r_iconst C (pc := 29) dX0_addRoundsOfFive_29 ?_
        refine r_icmp_ge C (pc := 30) 79 dX0_addRoundsOfFive_30 rfl h (fun c30 h => ?_) (fun c30 h => ?_)
        · refine r_iinc C (pc := 79) dX0_addRoundsOfFive_79 2 rfl (by decide) (L' := [(0, .ref a_this), (1, .int (jz v1_14)), (2, .int (jz (v2_21 + 1))), (3, .int (jz v3_28))]) rfl ?_
          refine r_goto C (pc := 82) 21 dX0_addRoundsOfFive_82 rfl ?_
          refine r_sub [0, 1, 2] rfl ?_
          exact hn21 (v2_21 + 1) this_held_28 this_numbers_28 this_keys_28 h
        · refine r_bipush C (pc := 33) dX0_addRoundsOfFive_33 rfl ?_
          refine r_iload_n C (pc := 35) dX0_addRoundsOfFive_35 rfl 1 rfl ?_
          refine r_isub C (pc := 36) dX0_addRoundsOfFive_36 ?_
          refine r_iload_n C (pc := 37) dX0_addRoundsOfFive_37 rfl 2 rfl ?_
          refine r_isub C (pc := 38) dX0_addRoundsOfFive_38 ?_
          refine r_iload_n C (pc := 39) dX0_addRoundsOfFive_39 rfl 3 rfl ?_
          refine r_isub C (pc := 40) dX0_addRoundsOfFive_40 ?_
          refine r_let h (fun x41 h => ?_)
          refine r_istore C (pc := 41) dX0_addRoundsOfFive_41 (by decide) (L' := [(0, .ref a_this), (1, .int (jz v1_14)), (2, .int (jz v2_21)), (3, .int (jz v3_28)), (4, .int (jz x41))]) rfl ?_
          refine r_iload_n C (pc := 43) dX0_addRoundsOfFive_43 rfl 1 rfl ?_
          refine r_iload_n C (pc := 44) dX0_addRoundsOfFive_44 rfl 2 rfl ?_
          refine jn_e (fun (k73 : Int → (Nat → Int) → (Nat → Int64) → Option (Int × (Nat → Int) × (Nat → Int64))) => ∀ (this_held_73 : Int) (this_numbers_73 : Nat → Int) (this_keys_73 : Nat → Int64), wp (k73 this_held_73 this_numbers_73 this_keys_73) K → WW g 0 0 (w_X0_addRoundsOfFive (xG g) a_this a_this_basis a_this_numbers a_this_keys a_this_twos a_this_basis_gaps c_this_followed c_this_there this_held_73 c_this_basis_size c_this_basis_gaps this_numbers_73 this_keys_73) 73 [(0, .ref a_this), (1, .int (jz v1_14)), (2, .int (jz v2_21)), (3, .int (jz v3_28))] []) h (fun this_held_73 this_numbers_73 this_keys_73 h => ?_) (fun k73 hk73 h => ?_)
          · refine r_iinc C (pc := 73) dX0_addRoundsOfFive_73 3 rfl (by decide) (L' := [(0, .ref a_this), (1, .int (jz v1_14)), (2, .int (jz v2_21)), (3, .int (jz (v3_28 + 1)))]) rfl ?_
            refine r_goto C (pc := 76) 28 dX0_addRoundsOfFive_76 rfl ?_
            exact hn28 (v3_28 + 1) this_held_73 this_numbers_73 this_keys_73 h
          · refine r_icmp_eq C (pc := 45) 73 dX0_addRoundsOfFive_45 rfl h (fun c45 h => ?_) (fun c45 h => ?_)
            · refine r_sub [0, 1, 2, 3] rfl ?_
              exact hk73 this_held_28 this_numbers_28 this_keys_28 h
            · refine r_iload_n C (pc := 48) dX0_addRoundsOfFive_48 rfl 1 rfl ?_
              refine r_iload_n C (pc := 49) dX0_addRoundsOfFive_49 rfl 3 rfl ?_
              refine r_icmp_eq C (pc := 50) 73 dX0_addRoundsOfFive_50 rfl h (fun c50 h => ?_) (fun c50 h => ?_)
              · refine r_sub [0, 1, 2, 3] rfl ?_
                exact hk73 this_held_28 this_numbers_28 this_keys_28 h
              · refine r_iload_n C (pc := 53) dX0_addRoundsOfFive_53 rfl 2 rfl ?_
                refine r_iload_n C (pc := 54) dX0_addRoundsOfFive_54 rfl 3 rfl ?_
                refine r_icmp_eq C (pc := 55) 73 dX0_addRoundsOfFive_55 rfl h (fun c55 h => ?_) (fun c55 h => ?_)
                · refine r_sub [0, 1, 2, 3] rfl ?_
                  exact hk73 this_held_28 this_numbers_28 this_keys_28 h
                · refine r_iload_n C (pc := 58) dX0_addRoundsOfFive_58 rfl 1 rfl ?_
                  refine r_iload C (pc := 59) dX0_addRoundsOfFive_59 4 rfl ?_
                  refine r_icmp_ge C (pc := 61) 73 dX0_addRoundsOfFive_61 rfl h (fun c61 h => ?_) (fun c61 h => ?_)
                  · refine r_sub [0, 1, 2, 3] rfl ?_
                    exact hk73 this_held_28 this_numbers_28 this_keys_28 h
                  · refine r_aload_n C (pc := 64) dX0_addRoundsOfFive_64 rfl 0 rfl ?_
                    refine r_iload_n C (pc := 65) dX0_addRoundsOfFive_65 rfl 1 rfl ?_
                    refine r_iload_n C (pc := 66) dX0_addRoundsOfFive_66 rfl 2 rfl ?_
                    refine r_iload_n C (pc := 67) dX0_addRoundsOfFive_67 rfl 3 rfl ?_
                    refine r_iload C (pc := 68) dX0_addRoundsOfFive_68 4 rfl ?_
                    obtain ⟨this_held_70, this_numbers_70, this_keys_70, e70, h⟩ := wp_b3 h
                    refine b_cVv C (pc := 70) dX0_addRoundsOfFive_70 (c_X0_addRoundOfFive (xl g) (xG g) a_this a_this_basis a_this_numbers a_this_keys a_this_twos a_this_basis_gaps c_this_followed c_this_there this_held_28 c_this_basis_size c_this_basis_gaps this_numbers_28 this_keys_28 v1_14 v2_21 v3_28 x41 this_held_70 this_numbers_70 this_keys_70 e70) rfl gX0_addRoundsOfFive_X0_addRoundOfFive ⟨rfl, rfl⟩ 4 hd_X0_addRoundOfFive ⟨Nat.le_of_ble_eq_true rfl, Nat.le_of_ble_eq_true rfl⟩ rfl 0 rfl rfl rfl [0, 1, 2, 3, 4] rfl (srt_nd 0 rfl) (ws' := w_X0_addRoundsOfFive (xG g) a_this a_this_basis a_this_numbers a_this_keys a_this_twos a_this_basis_gaps c_this_followed c_this_there this_held_70 c_this_basis_size c_this_basis_gaps this_numbers_70 this_keys_70) (Put.m rfl rfl rfl) rfl (rest := []) rfl (Nat.le_of_ble_eq_true rfl) ⟨Nat.zero_le _, Nat.zero_le _⟩ ?_
                    refine r_sub [0, 1, 2, 3] rfl ?_
                    exact hk73 this_held_70 this_numbers_70 this_keys_70 h
  · exact r_vret C (pc := 11) dX0_addRoundsOfFive_11 (hK c_this_held c_this_numbers c_this_keys (wp_s h))
theorem c_X0_addRoundsOfFive (l : Launch) (G : gG) (a_this : Nat) (a_this_basis : Nat) (a_this_numbers : Nat) (a_this_keys : Nat) (a_this_twos : Nat) (a_this_basis_gaps : Nat) (c_this_followed : Int) (c_this_there : Int) (c_this_held : Int) (c_this_basis_size : Int) (c_this_basis_gaps : Nat → Int) (c_this_numbers : Nat → Int) (c_this_keys : Nat → Int64) (o0 : Int) (o1 : Nat → Int) (o2 : Nat → Int64) (hf : f_X0_addRoundsOfFive c_this_held c_this_basis_size c_this_basis_gaps c_this_numbers c_this_keys = some (o0, o1, o2)) : CTv l yX0_addRoundsOfFive wsX0_addRoundsOfFive rm_X0_addRoundsOfFive G (w_X0_addRoundsOfFive G a_this a_this_basis a_this_numbers a_this_keys a_this_twos a_this_basis_gaps c_this_followed c_this_there c_this_held c_this_basis_size c_this_basis_gaps c_this_numbers c_this_keys) [.ref a_this] (w_X0_addRoundsOfFive G a_this a_this_basis a_this_numbers a_this_keys a_this_twos a_this_basis_gaps c_this_followed c_this_there o0 c_this_basis_size c_this_basis_gaps o1 o2) := CTv_of (by decide) rfl rfl (Nat.le_of_ble_eq_true rfl) (fun g C hG hl hF => by
    subst hG
    subst hl
    exact k_X0_addRoundsOfFive C a_this a_this_basis a_this_numbers a_this_keys a_this_twos a_this_basis_gaps c_this_followed c_this_there c_this_held c_this_basis_size c_this_basis_gaps c_this_numbers c_this_keys (fun x => x = (o0, o1, o2)) (fun o0' o1' o2' e => by cases e; exact hF) ⟨_, hf, rfl⟩)

-- TightHulls$Hull.has(I)Z
def f_X0_has (p1 : Int) (c_this_held : Int) : Option Int := jn (fun (s0_17 : Int) => grd (isB s0_17) (some s0_17)) (fun (k17 : Int → Option Int) => jn (k17 0) (fun (k16 : Option Int) => if ltI p1 0 = true then k16 else (if ltI p1 c_this_held = true then (k17 1) else k16)))
abbrev rm_X0_has : Room := { frames := 0, cells := 0, slots := 0, locals := 0 }
abbrev w_X0_has (G : gG) (a_this : Nat) (a_this_basis : Nat) (a_this_numbers : Nat) (a_this_keys : Nat) (a_this_twos : Nat) (c_this_followed : Int) (c_this_there : Int) (c_this_held : Int) : va_W := [(a_this, .inr (0, [.ref a_this_basis, .int (jz c_this_followed), .ref a_this_numbers, .ref a_this_keys, .ref a_this_twos, .int (jz c_this_there), .int (jz c_this_held)]))]
theorem hd_X0_has : yX0_has.cls = RX0 ∧ yX0_has.cls ≠ "java/lang/invoke/MethodHandle" ∧ yX0_has.cls ≠ "java/lang/invoke/VarHandle" ∧ (parseMethodDescriptor yX0_has.desc).map (fun d => d.parameters.length) = some 1 := by decide +kernel
theorem in_X0_has_X0 : ∀ w ∈ u_ws RX0 TX0 7, w ∈ wsX0_has := fun w h => List.mem_cons_of_mem _ (List.mem_append_right _ (h))
theorem gf_X0_has_36 : GF wsX0_has RX0 36 0 6 := ⟨RX0, TX0, 7, rfl, in_X0_has_X0, by decide, List.mem_of_getElem? (i := 1) rfl⟩
set_option maxRecDepth 100000 in
set_option maxHeartbeats 4000000 in
theorem k_X0_has {g : XC} (C : XOk g cX0_has RX0 wsX0_has rm_X0_has 2) (a_this : Nat) (a_this_basis : Nat) (a_this_numbers : Nat) (a_this_keys : Nat) (a_this_twos : Nat) (c_this_followed : Int) (c_this_there : Int) (c_this_held : Int) (p1 : Int) (K : Int → Prop) (hK : ∀ (r : Int), K r → (narrow .boolean (.int (jz r)) = .int (jz r) → FinI g 0 0 (w_X0_has (xG g) a_this a_this_basis a_this_numbers a_this_keys a_this_twos c_this_followed c_this_there c_this_held) (jz r))) (h : wp (f_X0_has p1 c_this_held) K) : WW g 0 0 (w_X0_has (xG g) a_this a_this_basis a_this_numbers a_this_keys a_this_twos c_this_followed c_this_there c_this_held) 0 [(0, .ref a_this), (1, .int (jz p1))] [] := by
  unfold f_X0_has at h
  refine r_iload_n C (pc := 0) dX0_has_0 rfl 1 rfl ?_
  refine jn_e (fun (k17 : Int → Option Int) => ∀ (s0_17 : Int), wp (k17 s0_17) K → WW g 0 0 (w_X0_has (xG g) a_this a_this_basis a_this_numbers a_this_keys a_this_twos c_this_followed c_this_there c_this_held) 17 [] [.int (jz s0_17)]) h (fun s0_17 h => ?_) (fun k17 hk17 h => ?_)
  · exact r_iret C (pc := 17) dX0_has_17 (hK s0_17 (wp_s (wp_g h).2) (nB (wp_g h).1).1)
  · refine jn_e (fun (k16 : Option Int) => wp (k16) K → WW g 0 0 (w_X0_has (xG g) a_this a_this_basis a_this_numbers a_this_keys a_this_twos c_this_followed c_this_there c_this_held) 16 [] []) h (fun h => ?_) (fun k16 hk16 h => ?_)
    · refine r_iconst C (pc := 16) dX0_has_16 ?_
      exact hk17 0 h
    · refine r_if_lt C (pc := 1) 16 dX0_has_1 rfl h (fun c1 h => ?_) (fun c1 h => ?_)
      · refine r_sub [] rfl ?_
        exact hk16 h
      · refine r_iload_n C (pc := 4) dX0_has_4 rfl 1 rfl ?_
        refine r_aload_n C (pc := 5) dX0_has_5 rfl 0 rfl ?_
        refine r_get C (pc := 6) dX0_has_6 gf_X0_has_36 0 rfl rfl ?_
        refine r_icmp_ge C (pc := 9) 16 dX0_has_9 rfl h (fun c9 h => ?_) (fun c9 h => ?_)
        · refine r_sub [] rfl ?_
          exact hk16 h
        · refine r_iconst C (pc := 12) dX0_has_12 ?_
          refine r_goto C (pc := 13) 17 dX0_has_13 rfl ?_
          refine r_sub [] rfl ?_
          exact hk17 1 h
theorem c_X0_has (l : Launch) (G : gG) (a_this : Nat) (a_this_basis : Nat) (a_this_numbers : Nat) (a_this_keys : Nat) (a_this_twos : Nat) (c_this_followed : Int) (c_this_there : Int) (c_this_held : Int) (p1 : Int) (r : Int) (hf : f_X0_has p1 c_this_held = some r) : CTi l yX0_has wsX0_has rm_X0_has G (w_X0_has G a_this a_this_basis a_this_numbers a_this_keys a_this_twos c_this_followed c_this_there c_this_held) [.ref a_this, .int (jz p1)] (jz r) (w_X0_has G a_this a_this_basis a_this_numbers a_this_keys a_this_twos c_this_followed c_this_there c_this_held) := CTi_of (by decide) rfl rfl (Nat.le_of_ble_eq_true rfl) (fun g C hG hl hF => by
    subst hG
    subst hl
    exact k_X0_has C a_this a_this_basis a_this_numbers a_this_keys a_this_twos c_this_followed c_this_there c_this_held p1 (fun x => x = r) (fun r' e => by cases e; exact hF) ⟨_, hf, rfl⟩)

-- TightHulls$Hull.number(II)I
def f_X0_number (p1 : Int) (p2 : Int) (c_this_held : Int) (c_this_basis_size : Int) (c_this_keys : Nat → Int64) : Option Int := bd1 (f_X0_has p1 c_this_held) (fun r2 => jn (some 0) (fun (k19 : Option Int) => if eqI r2 0 = true then k19 else (bd1 (f_X4_has p2 c_this_basis_size) (fun r13 => if eqI r13 0 = true then k19 else (grd (iin p1 37) (lv ((lshrI (c_this_keys (ix p1)) (7 * (4 - p2)))) (fun x34 => some (l2iI (x34 &&& (127 : Int64))))))))))
abbrev rm_X0_number : Room := { frames := 1, cells := 0, slots := 0, locals := 21 }
abbrev w_X0_number (G : gG) (a_this : Nat) (a_this_basis : Nat) (a_this_numbers : Nat) (a_this_keys : Nat) (a_this_twos : Nat) (a_this_basis_gaps : Nat) (c_this_followed : Int) (c_this_there : Int) (c_this_held : Int) (c_this_basis_size : Int) (c_this_keys : Nat → Int64) : va_W := [(a_this, .inr (0, [.ref a_this_basis, .int (jz c_this_followed), .ref a_this_numbers, .ref a_this_keys, .ref a_this_twos, .int (jz c_this_there), .int (jz c_this_held)])), (a_this_basis, .inr (4, [.int (jz c_this_basis_size), .ref a_this_basis_gaps])), (a_this_keys, aJ G 37 c_this_keys)]
theorem hd_X0_number : yX0_number.cls = RX0 ∧ yX0_number.cls ≠ "java/lang/invoke/MethodHandle" ∧ yX0_number.cls ≠ "java/lang/invoke/VarHandle" ∧ (parseMethodDescriptor yX0_number.desc).map (fun d => d.parameters.length) = some 2 := by decide +kernel
theorem in_X0_number_X0 : ∀ w ∈ u_ws RX0 TX0 7, w ∈ wsX0_number := fun w h => List.mem_cons_of_mem _ (List.mem_append_left _ (List.mem_append_right _ (h)))
theorem gf_X0_number_12 : GF wsX0_number RX0 12 0 0 := ⟨RX0, TX0, 7, rfl, in_X0_number_X0, by decide, List.mem_of_getElem? (i := 1) rfl⟩
theorem gf_X0_number_26 : GF wsX0_number RX0 26 0 3 := ⟨RX0, TX0, 7, rfl, in_X0_number_X0, by decide, List.mem_of_getElem? (i := 2) rfl⟩
theorem mm_X0_number_3 : Jvm.Cond.constantLong RX0 111 (127) ∈ wsX0_number := List.mem_of_getElem? (i := 3) rfl
set_option maxRecDepth 100000 in
set_option maxHeartbeats 4000000 in
theorem k_X0_number {g : XC} (C : XOk g cX0_number RX0 wsX0_number rm_X0_number 5) (a_this : Nat) (a_this_basis : Nat) (a_this_numbers : Nat) (a_this_keys : Nat) (a_this_twos : Nat) (a_this_basis_gaps : Nat) (c_this_followed : Int) (c_this_there : Int) (c_this_held : Int) (c_this_basis_size : Int) (c_this_keys : Nat → Int64) (p1 : Int) (p2 : Int) (K : Int → Prop) (hK : ∀ (r : Int), K r → (narrow .int (.int (jz r)) = .int (jz r) → FinI g 0 0 (w_X0_number (xG g) a_this a_this_basis a_this_numbers a_this_keys a_this_twos a_this_basis_gaps c_this_followed c_this_there c_this_held c_this_basis_size c_this_keys) (jz r))) (h : wp (f_X0_number p1 p2 c_this_held c_this_basis_size c_this_keys) K) : WW g 0 0 (w_X0_number (xG g) a_this a_this_basis a_this_numbers a_this_keys a_this_twos a_this_basis_gaps c_this_followed c_this_there c_this_held c_this_basis_size c_this_keys) 0 [(0, .ref a_this), (1, .int (jz p1)), (2, .int (jz p2))] [] := by
  unfold f_X0_number at h
  refine r_aload_n C (pc := 0) dX0_number_0 rfl 0 rfl ?_
  refine r_iload_n C (pc := 1) dX0_number_1 rfl 1 rfl ?_
  obtain ⟨r2, e2, h⟩ := wp_b1 h
  refine b_cVi C (pc := 2) dX0_number_2 (c_X0_has (xl g) (xG g) a_this a_this_basis a_this_numbers a_this_keys a_this_twos c_this_followed c_this_there c_this_held p1 r2 e2) rfl gX0_number_X0_has ⟨rfl, rfl⟩ 1 hd_X0_has ⟨Nat.le_of_ble_eq_true rfl, Nat.le_of_ble_eq_true rfl⟩ rfl 0 rfl rfl rfl [0] rfl (srt_nd 0 rfl) (ws' := w_X0_number (xG g) a_this a_this_basis a_this_numbers a_this_keys a_this_twos a_this_basis_gaps c_this_followed c_this_there c_this_held c_this_basis_size c_this_keys) (Put.m rfl rfl rfl) rfl (rest := []) rfl (Nat.le_of_ble_eq_true rfl) ⟨Nat.zero_le _, Nat.zero_le _⟩ ?_
  refine jn_e (fun (k19 : Option Int) => wp (k19) K → WW g 0 0 (w_X0_number (xG g) a_this a_this_basis a_this_numbers a_this_keys a_this_twos a_this_basis_gaps c_this_followed c_this_there c_this_held c_this_basis_size c_this_keys) 19 [] []) h (fun h => ?_) (fun k19 hk19 h => ?_)
  · refine r_iconst C (pc := 19) dX0_number_19 ?_
    exact r_iret C (pc := 20) dX0_number_20 (hK 0 (wp_s h) rfl)
  · refine r_if_eq C (pc := 5) 19 dX0_number_5 rfl h (fun c5 h => ?_) (fun c5 h => ?_)
    · refine r_sub [] rfl ?_
      exact hk19 h
    · refine r_aload_n C (pc := 8) dX0_number_8 rfl 0 rfl ?_
      refine r_get C (pc := 9) dX0_number_9 gf_X0_number_12 0 rfl rfl ?_
      refine r_iload_n C (pc := 12) dX0_number_12 rfl 2 rfl ?_
      obtain ⟨r13, e13, h⟩ := wp_b1 h
      refine b_cVi C (pc := 13) dX0_number_13 (c_X4_has (xl g) (xG g) a_this_basis a_this_basis_gaps c_this_basis_size p2 r13 e13) rfl gX0_number_X4_has ⟨rfl, rfl⟩ 1 hd_X4_has ⟨Nat.le_of_ble_eq_true rfl, Nat.le_of_ble_eq_true rfl⟩ rfl 1 rfl rfl rfl [1] rfl (srt_nd 0 rfl) (ws' := w_X0_number (xG g) a_this a_this_basis a_this_numbers a_this_keys a_this_twos a_this_basis_gaps c_this_followed c_this_there c_this_held c_this_basis_size c_this_keys) (Put.m rfl rfl rfl) rfl (rest := []) rfl (Nat.le_of_ble_eq_true rfl) ⟨Nat.zero_le _, Nat.zero_le _⟩ ?_
      refine r_if_ne C (pc := 16) 21 dX0_number_16 rfl h (fun c16 h => ?_) (fun c16 h => ?_)
      · refine r_aload_n C (pc := 21) dX0_number_21 rfl 0 rfl ?_
        refine r_get C (pc := 22) dX0_number_22 gf_X0_number_26 0 rfl rfl ?_
        refine r_iload_n C (pc := 25) dX0_number_25 rfl 1 rfl ?_
        refine r_lald C (pc := 26) dX0_number_26 h 2 rfl (fun h => ?_)
        refine r_bipush C (pc := 27) dX0_number_27 rfl ?_
        refine r_iconst C (pc := 29) dX0_number_29 ?_
        refine r_iload_n C (pc := 30) dX0_number_30 rfl 2 rfl ?_
        refine r_isub C (pc := 31) dX0_number_31 ?_
        refine r_imul C (pc := 32) dX0_number_32 ?_
        refine r_lshr C (pc := 33) dX0_number_33 ?_
        refine r_letl h (fun x34 h => ?_)
        refine r_lstore_n C (pc := 34) dX0_number_34 rfl (by decide) (L' := [(0, .ref a_this), (1, .int (jz p1)), (2, .int (jz p2)), (3, .long x34)]) rfl ?_
        refine r_lload_n C (pc := 35) dX0_number_35 rfl 3 rfl ?_
        refine r_ldc2 C (pc := 36) dX0_number_36 mm_X0_number_3 ?_
        refine r_land C (pc := 39) dX0_number_39 ?_
        refine r_l2i C (pc := 40) dX0_number_40 ?_
        exact r_iret C (pc := 41) dX0_number_41 (hK (l2iI (x34 &&& (127 : Int64))) (wp_s h) rfl)
      · refine r_sub [] rfl ?_
        exact hk19 h
theorem c_X0_number (l : Launch) (G : gG) (a_this : Nat) (a_this_basis : Nat) (a_this_numbers : Nat) (a_this_keys : Nat) (a_this_twos : Nat) (a_this_basis_gaps : Nat) (c_this_followed : Int) (c_this_there : Int) (c_this_held : Int) (c_this_basis_size : Int) (c_this_keys : Nat → Int64) (p1 : Int) (p2 : Int) (r : Int) (hf : f_X0_number p1 p2 c_this_held c_this_basis_size c_this_keys = some r) : CTi l yX0_number wsX0_number rm_X0_number G (w_X0_number G a_this a_this_basis a_this_numbers a_this_keys a_this_twos a_this_basis_gaps c_this_followed c_this_there c_this_held c_this_basis_size c_this_keys) [.ref a_this, .int (jz p1), .int (jz p2)] (jz r) (w_X0_number G a_this a_this_basis a_this_numbers a_this_keys a_this_twos a_this_basis_gaps c_this_followed c_this_there c_this_held c_this_basis_size c_this_keys) := CTi_of (by decide) rfl rfl (Nat.le_of_ble_eq_true rfl) (fun g C hG hl hF => by
    subst hG
    subst hl
    exact k_X0_number C a_this a_this_basis a_this_numbers a_this_keys a_this_twos a_this_basis_gaps c_this_followed c_this_there c_this_held c_this_basis_size c_this_keys p1 p2 (fun x => x = r) (fun r' e => by cases e; exact hF) ⟨_, hf, rfl⟩)

-- TightHulls$Hull.noteTwos()V
def f_X0_noteTwos (c_this_held : Int) (c_this_basis_size : Int) (c_this_basis_gaps : Nat → Int) (c_this_numbers : Nat → Int) (c_this_keys : Nat → Int64) (c_this_twos : Nat → Int) : Option ((Nat → Int) × (Nat → Int)) := lq3 (fun (n2 : Int → (Nat → Int) → (Nat → Int) → Option ((Nat → Int) × (Nat → Int))) (v1_2 : Int) (this_numbers_2 : Nat → Int) (this_twos_2 : Nat → Int) => if ltI v1_2 c_this_held = true then (lq2 (fun (n12 : Int → (Nat → Int) → Option ((Nat → Int) × (Nat → Int))) (v2_12 : Int) (this_numbers_12 : Nat → Int) => if ltI v2_12 c_this_basis_size = true then (bd1 (f_X0_number v1_2 v2_12 c_this_held c_this_basis_size c_this_keys) (fun r31 => grd (iin v2_12 5) (n12 (v2_12 + 1) (up this_numbers_12 (ix v2_12) r31)))) else (bd1 (f_X7_tightTwos c_this_basis_size c_this_basis_gaps this_numbers_12) (fun r54 => grd (iin v1_2 37) (n2 (v1_2 + 1) this_numbers_12 (up this_twos_2 (ix v1_2) r54))))) 300 0 this_numbers_2) else (some (this_numbers_2, this_twos_2))) 300 0 c_this_numbers c_this_twos
abbrev rm_X0_noteTwos : Room := { frames := 2, cells := 0, slots := 0, locals := 47 }
abbrev w_X0_noteTwos (G : gG) (a_this : Nat) (a_this_basis : Nat) (a_this_numbers : Nat) (a_this_keys : Nat) (a_this_twos : Nat) (a_this_basis_gaps : Nat) (c_this_followed : Int) (c_this_there : Int) (c_this_held : Int) (c_this_basis_size : Int) (c_this_basis_gaps : Nat → Int) (c_this_numbers : Nat → Int) (c_this_keys : Nat → Int64) (c_this_twos : Nat → Int) : va_W := [(a_this, .inr (0, [.ref a_this_basis, .int (jz c_this_followed), .ref a_this_numbers, .ref a_this_keys, .ref a_this_twos, .int (jz c_this_there), .int (jz c_this_held)])), (a_this_basis, .inr (4, [.int (jz c_this_basis_size), .ref a_this_basis_gaps])), (a_this_basis_gaps, aI G 25 c_this_basis_gaps), (a_this_numbers, aI G 5 c_this_numbers), (a_this_keys, aJ G 37 c_this_keys), (a_this_twos, aI G 37 c_this_twos)]
theorem hd_X0_noteTwos : yX0_noteTwos.cls = RX0 ∧ yX0_noteTwos.cls ≠ "java/lang/invoke/MethodHandle" ∧ yX0_noteTwos.cls ≠ "java/lang/invoke/VarHandle" ∧ (parseMethodDescriptor yX0_noteTwos.desc).map (fun d => d.parameters.length) = some 0 := by decide +kernel
theorem in_X0_noteTwos_X0 : ∀ w ∈ u_ws RX0 TX0 7, w ∈ wsX0_noteTwos := fun w h => List.mem_cons_of_mem _ (List.mem_append_left _ (List.mem_append_right _ (h)))
theorem gf_X0_noteTwos_36 : GF wsX0_noteTwos RX0 36 0 6 := ⟨RX0, TX0, 7, rfl, in_X0_noteTwos_X0, by decide, List.mem_of_getElem? (i := 1) rfl⟩
theorem gf_X0_noteTwos_12 : GF wsX0_noteTwos RX0 12 0 0 := ⟨RX0, TX0, 7, rfl, in_X0_noteTwos_X0, by decide, List.mem_of_getElem? (i := 2) rfl⟩
theorem in_X0_noteTwos_X4 : ∀ w ∈ u_ws RX4 TX4 2, w ∈ wsX0_noteTwos := fun w h => List.mem_cons_of_mem _ (List.mem_append_right _ (h))
theorem gf_X0_noteTwos_64 : GF wsX0_noteTwos RX0 64 4 0 := ⟨RX4, TX4, 2, rfl, in_X0_noteTwos_X4, by decide, List.mem_of_getElem? (i := 3) rfl⟩
theorem gf_X0_noteTwos_30 : GF wsX0_noteTwos RX0 30 0 4 := ⟨RX0, TX0, 7, rfl, in_X0_noteTwos_X0, by decide, List.mem_of_getElem? (i := 5) rfl⟩
theorem gf_X0_noteTwos_22 : GF wsX0_noteTwos RX0 22 0 2 := ⟨RX0, TX0, 7, rfl, in_X0_noteTwos_X0, by decide, List.mem_of_getElem? (i := 4) rfl⟩
set_option maxRecDepth 100000 in
set_option maxHeartbeats 4000000 in
theorem k_X0_noteTwos {g : XC} (C : XOk g cX0_noteTwos RX0 wsX0_noteTwos rm_X0_noteTwos 3) (a_this : Nat) (a_this_basis : Nat) (a_this_numbers : Nat) (a_this_keys : Nat) (a_this_twos : Nat) (a_this_basis_gaps : Nat) (c_this_followed : Int) (c_this_there : Int) (c_this_held : Int) (c_this_basis_size : Int) (c_this_basis_gaps : Nat → Int) (c_this_numbers : Nat → Int) (c_this_keys : Nat → Int64) (c_this_twos : Nat → Int)  (K : ((Nat → Int) × (Nat → Int)) → Prop) (hK : ∀ (o0 : Nat → Int) (o1 : Nat → Int), K (o0, o1) → FinV g 0 0 (w_X0_noteTwos (xG g) a_this a_this_basis a_this_numbers a_this_keys a_this_twos a_this_basis_gaps c_this_followed c_this_there c_this_held c_this_basis_size c_this_basis_gaps o0 c_this_keys o1)) (h : wp (f_X0_noteTwos c_this_held c_this_basis_size c_this_basis_gaps c_this_numbers c_this_keys c_this_twos) K) : WW g 0 0 (w_X0_noteTwos (xG g) a_this a_this_basis a_this_numbers a_this_keys a_this_twos a_this_basis_gaps c_this_followed c_this_there c_this_held c_this_basis_size c_this_basis_gaps c_this_numbers c_this_keys c_this_twos) 0 [(0, .ref a_this)] [] := by
  unfold f_X0_noteTwos at h
  refine r_iconst C (pc := 0) dX0_noteTwos_0 ?_
  refine r_istore_n C (pc := 1) dX0_noteTwos_1 rfl (by decide) (L' := [(0, .ref a_this), (1, .int (jz 0))]) rfl ?_
  refine lq3_e (fun (v1_2 : Int) (this_numbers_2 : Nat → Int) (this_twos_2 : Nat → Int) => WW g 0 0 (w_X0_noteTwos (xG g) a_this a_this_basis a_this_numbers a_this_keys a_this_twos a_this_basis_gaps c_this_followed c_this_there c_this_held c_this_basis_size c_this_basis_gaps this_numbers_2 c_this_keys this_twos_2) 2 [(0, .ref a_this), (1, .int (jz v1_2))] []) h (fun n2 hn2 v1_2 this_numbers_2 this_twos_2 h => ?_)
  refine r_iload_n C (pc := 2) dX0_noteTwos_2 rfl 1 rfl ?_
  refine r_aload_n C (pc := 3) dX0_noteTwos_3 rfl 0 rfl ?_
  refine r_get C (pc := 4) dX0_noteTwos_4 gf_X0_noteTwos_36 0 rfl rfl ?_
  refine r_icmp_ge C (pc := 7) 64 dX0_noteTwos_7 rfl h (fun c7 h => ?_) (fun c7 h => ?_)
  · exact r_vret C (pc := 64) dX0_noteTwos_64 (hK this_numbers_2 this_twos_2 (wp_s h))
  · refine r_iconst C (pc := 10) dX0_noteTwos_10 ?_
    refine r_istore_n C (pc := 11) dX0_noteTwos_11 rfl (by decide) (L' := [(0, .ref a_this), (1, .int (jz v1_2)), (2, .int (jz 0))]) rfl ?_
    refine lq2_e (fun (v2_12 : Int) (this_numbers_12 : Nat → Int) => WW g 0 0 (w_X0_noteTwos (xG g) a_this a_this_basis a_this_numbers a_this_keys a_this_twos a_this_basis_gaps c_this_followed c_this_there c_this_held c_this_basis_size c_this_basis_gaps this_numbers_12 c_this_keys this_twos_2) 12 [(0, .ref a_this), (1, .int (jz v1_2)), (2, .int (jz v2_12))] []) h (fun n12 hn12 v2_12 this_numbers_12 h => ?_)
    refine r_iload_n C (pc := 12) dX0_noteTwos_12 rfl 2 rfl ?_
    refine r_aload_n C (pc := 13) dX0_noteTwos_13 rfl 0 rfl ?_
    refine r_get C (pc := 14) dX0_noteTwos_14 gf_X0_noteTwos_12 0 rfl rfl ?_
    refine r_get C (pc := 17) dX0_noteTwos_17 gf_X0_noteTwos_64 1 rfl rfl ?_
    refine r_icmp_ge C (pc := 20) 41 dX0_noteTwos_20 rfl h (fun c20 h => ?_) (fun c20 h => ?_)
    · refine r_aload_n C (pc := 41) dX0_noteTwos_41 rfl 0 rfl ?_
      refine r_get C (pc := 42) dX0_noteTwos_42 gf_X0_noteTwos_30 0 rfl rfl ?_
      refine r_iload_n C (pc := 45) dX0_noteTwos_45 rfl 1 rfl ?_
      refine r_aload_n C (pc := 46) dX0_noteTwos_46 rfl 0 rfl ?_
      refine r_get C (pc := 47) dX0_noteTwos_47 gf_X0_noteTwos_12 0 rfl rfl ?_
      refine r_aload_n C (pc := 50) dX0_noteTwos_50 rfl 0 rfl ?_
      refine r_get C (pc := 51) dX0_noteTwos_51 gf_X0_noteTwos_22 0 rfl rfl ?_
      obtain ⟨r54, e54, h⟩ := wp_b1 h
      refine b_cSi C (pc := 54) dX0_noteTwos_54 (c_X7_tightTwos (xl g) (xG g) a_this_basis a_this_basis_gaps a_this_numbers c_this_basis_size c_this_basis_gaps this_numbers_12 r54 e54) rfl gX0_noteTwos_X7_tightTwos ⟨rfl, rfl⟩ 2 hd_X7_tightTwos ⟨Nat.le_of_ble_eq_true rfl, Nat.le_of_ble_eq_true rfl⟩ rfl [1, 2, 3] rfl (srt_nd 0 rfl) (ws' := w_X0_noteTwos (xG g) a_this a_this_basis a_this_numbers a_this_keys a_this_twos a_this_basis_gaps c_this_followed c_this_there c_this_held c_this_basis_size c_this_basis_gaps this_numbers_12 c_this_keys this_twos_2) (Put.m rfl rfl rfl) rfl (rest := [.int (jz v1_2), .ref a_this_twos]) rfl (Nat.le_of_ble_eq_true rfl) ⟨Nat.zero_le _, Nat.zero_le _⟩ ?_
      refine r_iast C (pc := 57) dX0_noteTwos_57 h 5 rfl (ws' := w_X0_noteTwos (xG g) a_this a_this_basis a_this_numbers a_this_keys a_this_twos a_this_basis_gaps c_this_followed c_this_there c_this_held c_this_basis_size c_this_basis_gaps this_numbers_12 c_this_keys (up this_twos_2 (ix v1_2) r54)) rfl (fun h => ?_)
      refine r_iinc C (pc := 58) dX0_noteTwos_58 1 rfl (by decide) (L' := [(0, .ref a_this), (1, .int (jz (v1_2 + 1))), (2, .int (jz v2_12))]) rfl ?_
      refine r_goto C (pc := 61) 2 dX0_noteTwos_61 rfl ?_
      refine r_sub [0, 1] rfl ?_
      exact hn2 (v1_2 + 1) this_numbers_12 (up this_twos_2 (ix v1_2) r54) h
    · refine r_aload_n C (pc := 23) dX0_noteTwos_23 rfl 0 rfl ?_
      refine r_get C (pc := 24) dX0_noteTwos_24 gf_X0_noteTwos_22 0 rfl rfl ?_
      refine r_iload_n C (pc := 27) dX0_noteTwos_27 rfl 2 rfl ?_
      refine r_aload_n C (pc := 28) dX0_noteTwos_28 rfl 0 rfl ?_
      refine r_iload_n C (pc := 29) dX0_noteTwos_29 rfl 1 rfl ?_
      refine r_iload_n C (pc := 30) dX0_noteTwos_30 rfl 2 rfl ?_
      obtain ⟨r31, e31, h⟩ := wp_b1 h
      refine b_cVi C (pc := 31) dX0_noteTwos_31 (c_X0_number (xl g) (xG g) a_this a_this_basis a_this_numbers a_this_keys a_this_twos a_this_basis_gaps c_this_followed c_this_there c_this_held c_this_basis_size c_this_keys v1_2 v2_12 r31 e31) rfl gX0_noteTwos_X0_number ⟨rfl, rfl⟩ 2 hd_X0_number ⟨Nat.le_of_ble_eq_true rfl, Nat.le_of_ble_eq_true rfl⟩ rfl 0 rfl rfl rfl [0, 1, 4] rfl (srt_nd 0 rfl) (ws' := w_X0_noteTwos (xG g) a_this a_this_basis a_this_numbers a_this_keys a_this_twos a_this_basis_gaps c_this_followed c_this_there c_this_held c_this_basis_size c_this_basis_gaps this_numbers_12 c_this_keys this_twos_2) (Put.m rfl rfl rfl) rfl (rest := [.int (jz v2_12), .ref a_this_numbers]) rfl (Nat.le_of_ble_eq_true rfl) ⟨Nat.zero_le _, Nat.zero_le _⟩ ?_
      refine r_iast C (pc := 34) dX0_noteTwos_34 h 3 rfl (ws' := w_X0_noteTwos (xG g) a_this a_this_basis a_this_numbers a_this_keys a_this_twos a_this_basis_gaps c_this_followed c_this_there c_this_held c_this_basis_size c_this_basis_gaps (up this_numbers_12 (ix v2_12) r31) c_this_keys this_twos_2) rfl (fun h => ?_)
      refine r_iinc C (pc := 35) dX0_noteTwos_35 2 rfl (by decide) (L' := [(0, .ref a_this), (1, .int (jz v1_2)), (2, .int (jz (v2_12 + 1)))]) rfl ?_
      refine r_goto C (pc := 38) 12 dX0_noteTwos_38 rfl ?_
      exact hn12 (v2_12 + 1) (up this_numbers_12 (ix v2_12) r31) h
theorem c_X0_noteTwos (l : Launch) (G : gG) (a_this : Nat) (a_this_basis : Nat) (a_this_numbers : Nat) (a_this_keys : Nat) (a_this_twos : Nat) (a_this_basis_gaps : Nat) (c_this_followed : Int) (c_this_there : Int) (c_this_held : Int) (c_this_basis_size : Int) (c_this_basis_gaps : Nat → Int) (c_this_numbers : Nat → Int) (c_this_keys : Nat → Int64) (c_this_twos : Nat → Int) (o0 : Nat → Int) (o1 : Nat → Int) (hf : f_X0_noteTwos c_this_held c_this_basis_size c_this_basis_gaps c_this_numbers c_this_keys c_this_twos = some (o0, o1)) : CTv l yX0_noteTwos wsX0_noteTwos rm_X0_noteTwos G (w_X0_noteTwos G a_this a_this_basis a_this_numbers a_this_keys a_this_twos a_this_basis_gaps c_this_followed c_this_there c_this_held c_this_basis_size c_this_basis_gaps c_this_numbers c_this_keys c_this_twos) [.ref a_this] (w_X0_noteTwos G a_this a_this_basis a_this_numbers a_this_keys a_this_twos a_this_basis_gaps c_this_followed c_this_there c_this_held c_this_basis_size c_this_basis_gaps o0 c_this_keys o1) := CTv_of (by decide) rfl rfl (Nat.le_of_ble_eq_true rfl) (fun g C hG hl hF => by
    subst hG
    subst hl
    exact k_X0_noteTwos C a_this a_this_basis a_this_numbers a_this_keys a_this_twos a_this_basis_gaps c_this_followed c_this_there c_this_held c_this_basis_size c_this_basis_gaps c_this_numbers c_this_keys c_this_twos (fun x => x = (o0, o1)) (fun o0' o1' e => by cases e; exact hF) ⟨_, hf, rfl⟩)

-- TightHulls$Hull.follow(LTightHulls$Table;)V
def f_X0_follow (c_this_followed : Int) (c_this_there : Int) (c_this_held : Int) (c_this_basis_size : Int) (c_this_basis_gaps : Nat → Int) (c_this_numbers : Nat → Int) (c_this_keys : Nat → Int64) (c_this_twos : Nat → Int) (c_p1_size : Int) (c_p1_gaps : Nat → Int) : Option (Int × Int × Int × Int × (Nat → Int) × (Nat → Int) × (Nat → Int64) × (Nat → Int)) := jn (bd2 (f_X4_become c_this_basis_size c_this_basis_gaps c_p1_size c_p1_gaps) (fun this_basis_size_24 this_basis_gaps_24 => grd (isB 1) (bd1 (f_X4_isTable this_basis_size_24 this_basis_gaps_24) (fun r42 => grd (isB r42) (jn (fun (this_held_71 : Int) (this_numbers_71 : Nat → Int) (this_keys_71 : Nat → Int64) (this_twos_71 : Nat → Int) => some (1, r42, this_held_71, this_basis_size_24, this_basis_gaps_24, this_numbers_71, this_keys_71, this_twos_71)) (fun (k71 : Int → (Nat → Int) → (Nat → Int64) → (Nat → Int) → Option (Int × Int × Int × Int × (Nat → Int) × (Nat → Int) × (Nat → Int64) × (Nat → Int))) => if eqI r42 0 = true then (k71 0 c_this_numbers c_this_keys c_this_twos) else (bd3 (f_X0_addEyes 0 this_basis_size_24 this_basis_gaps_24 c_this_numbers c_this_keys) (fun this_held_56 this_numbers_56 this_keys_56 => bd3 (f_X0_addRoundsOfThree this_held_56 this_basis_size_24 this_basis_gaps_24 this_numbers_56 this_keys_56) (fun this_held_60 this_numbers_60 this_keys_60 => bd3 (f_X0_addRoundsOfFive this_held_60 this_basis_size_24 this_basis_gaps_24 this_numbers_60 this_keys_60) (fun this_held_64 this_numbers_64 this_keys_64 => bd2 (f_X0_noteTwos this_held_64 this_basis_size_24 this_basis_gaps_24 this_numbers_64 this_keys_64 c_this_twos) (fun this_numbers_68 this_twos_68 => k71 this_held_64 this_numbers_68 this_keys_64 this_twos_68))))))))))) (fun (k19 : Option (Int × Int × Int × Int × (Nat → Int) × (Nat → Int) × (Nat → Int64) × (Nat → Int))) => if eqI c_this_followed 0 = true then k19 else (bd1 (f_X4_isLike c_this_basis_size c_this_basis_gaps c_p1_size c_p1_gaps) (fun r12 => if eqI r12 0 = true then k19 else (some (c_this_followed, c_this_there, c_this_held, c_this_basis_size, c_this_basis_gaps, c_this_numbers, c_this_keys, c_this_twos)))))
abbrev rm_X0_follow : Room := { frames := 4, cells := 0, slots := 0, locals := 138 }
abbrev w_X0_follow (G : gG) (a_this : Nat) (a_this_basis : Nat) (a_this_numbers : Nat) (a_this_keys : Nat) (a_this_twos : Nat) (a_this_basis_gaps : Nat) (a_p1 : Nat) (a_p1_gaps : Nat) (c_this_followed : Int) (c_this_there : Int) (c_this_held : Int) (c_this_basis_size : Int) (c_this_basis_gaps : Nat → Int) (c_this_numbers : Nat → Int) (c_this_keys : Nat → Int64) (c_this_twos : Nat → Int) (c_p1_size : Int) (c_p1_gaps : Nat → Int) : va_W := [(a_this, .inr (0, [.ref a_this_basis, .int (jz c_this_followed), .ref a_this_numbers, .ref a_this_keys, .ref a_this_twos, .int (jz c_this_there), .int (jz c_this_held)])), (a_this_basis, .inr (4, [.int (jz c_this_basis_size), .ref a_this_basis_gaps])), (a_this_basis_gaps, aI G 25 c_this_basis_gaps), (a_this_numbers, aI G 5 c_this_numbers), (a_this_keys, aJ G 37 c_this_keys), (a_this_twos, aI G 37 c_this_twos), (a_p1, .inr (4, [.int (jz c_p1_size), .ref a_p1_gaps])), (a_p1_gaps, aI G 25 c_p1_gaps)]
theorem hd_X0_follow : yX0_follow.cls = RX0 ∧ yX0_follow.cls ≠ "java/lang/invoke/MethodHandle" ∧ yX0_follow.cls ≠ "java/lang/invoke/VarHandle" ∧ (parseMethodDescriptor yX0_follow.desc).map (fun d => d.parameters.length) = some 1 := by decide +kernel
theorem in_X0_follow_X0 : ∀ w ∈ u_ws RX0 TX0 7, w ∈ wsX0_follow := fun w h => List.mem_cons_of_mem _ (List.mem_append_left _ (List.mem_append_right _ (h)))
theorem gf_X0_follow_18 : GF wsX0_follow RX0 18 0 1 := ⟨RX0, TX0, 7, rfl, in_X0_follow_X0, by decide, List.mem_of_getElem? (i := 1) rfl⟩
theorem gf_X0_follow_12 : GF wsX0_follow RX0 12 0 0 := ⟨RX0, TX0, 7, rfl, in_X0_follow_X0, by decide, List.mem_of_getElem? (i := 2) rfl⟩
theorem pf_X0_follow_18 : PF wsX0_follow RX0 18 0 1 .boolean false := ⟨RX0, TX0, 7, tyX0, rfl, in_X0_follow_X0, tyX0_ok, nmX0, by decide, List.mem_of_getElem? (i := 1) rfl, rfl, rfl, rfl⟩
theorem pf_X0_follow_36 : PF wsX0_follow RX0 36 0 6 .int false := ⟨RX0, TX0, 7, tyX0, rfl, in_X0_follow_X0, tyX0_ok, nmX0, by decide, List.mem_of_getElem? (i := 3) rfl, rfl, rfl, rfl⟩
theorem pf_X0_follow_33 : PF wsX0_follow RX0 33 0 5 .boolean false := ⟨RX0, TX0, 7, tyX0, rfl, in_X0_follow_X0, tyX0_ok, nmX0, by decide, List.mem_of_getElem? (i := 4) rfl, rfl, rfl, rfl⟩
theorem gf_X0_follow_33 : GF wsX0_follow RX0 33 0 5 := ⟨RX0, TX0, 7, rfl, in_X0_follow_X0, by decide, List.mem_of_getElem? (i := 4) rfl⟩
set_option maxRecDepth 100000 in
set_option maxHeartbeats 4000000 in
theorem k_X0_follow {g : XC} (C : XOk g cX0_follow RX0 wsX0_follow rm_X0_follow 2) (a_this : Nat) (a_this_basis : Nat) (a_this_numbers : Nat) (a_this_keys : Nat) (a_this_twos : Nat) (a_this_basis_gaps : Nat) (a_p1 : Nat) (a_p1_gaps : Nat) (c_this_followed : Int) (c_this_there : Int) (c_this_held : Int) (c_this_basis_size : Int) (c_this_basis_gaps : Nat → Int) (c_this_numbers : Nat → Int) (c_this_keys : Nat → Int64) (c_this_twos : Nat → Int) (c_p1_size : Int) (c_p1_gaps : Nat → Int)  (K : (Int × Int × Int × Int × (Nat → Int) × (Nat → Int) × (Nat → Int64) × (Nat → Int)) → Prop) (hK : ∀ (o0 : Int) (o1 : Int) (o2 : Int) (o3 : Int) (o4 : Nat → Int) (o5 : Nat → Int) (o6 : Nat → Int64) (o7 : Nat → Int), K (o0, o1, o2, o3, o4, o5, o6, o7) → FinV g 0 0 (w_X0_follow (xG g) a_this a_this_basis a_this_numbers a_this_keys a_this_twos a_this_basis_gaps a_p1 a_p1_gaps o0 o1 o2 o3 o4 o5 o6 o7 c_p1_size c_p1_gaps)) (h : wp (f_X0_follow c_this_followed c_this_there c_this_held c_this_basis_size c_this_basis_gaps c_this_numbers c_this_keys c_this_twos c_p1_size c_p1_gaps) K) : WW g 0 0 (w_X0_follow (xG g) a_this a_this_basis a_this_numbers a_this_keys a_this_twos a_this_basis_gaps a_p1 a_p1_gaps c_this_followed c_this_there c_this_held c_this_basis_size c_this_basis_gaps c_this_numbers c_this_keys c_this_twos c_p1_size c_p1_gaps) 0 [(0, .ref a_this), (1, .ref a_p1)] [] := by
  unfold f_X0_follow at h
  refine r_aload_n C (pc := 0) dX0_follow_0 rfl 0 rfl ?_
  refine r_get C (pc := 1) dX0_follow_1 gf_X0_follow_18 0 rfl rfl ?_
  refine jn_e (fun (k19 : Option (Int × Int × Int × Int × (Nat → Int) × (Nat → Int) × (Nat → Int64) × (Nat → Int))) => wp (k19) K → WW g 0 0 (w_X0_follow (xG g) a_this a_this_basis a_this_numbers a_this_keys a_this_twos a_this_basis_gaps a_p1 a_p1_gaps c_this_followed c_this_there c_this_held c_this_basis_size c_this_basis_gaps c_this_numbers c_this_keys c_this_twos c_p1_size c_p1_gaps) 19 [(0, .ref a_this), (1, .ref a_p1)] []) h (fun h => ?_) (fun k19 hk19 h => ?_)
  · refine r_aload_n C (pc := 19) dX0_follow_19 rfl 0 rfl ?_
    refine r_get C (pc := 20) dX0_follow_20 gf_X0_follow_12 0 rfl rfl ?_
    refine r_aload_n C (pc := 23) dX0_follow_23 rfl 1 rfl ?_
    obtain ⟨this_basis_size_24, this_basis_gaps_24, e24, h⟩ := wp_b2 h
    refine b_cVv C (pc := 24) dX0_follow_24 (c_X4_become (xl g) (xG g) a_this_basis a_this_basis_gaps a_p1 a_p1_gaps c_this_basis_size c_this_basis_gaps c_p1_size c_p1_gaps this_basis_size_24 this_basis_gaps_24 e24) rfl gX0_follow_X4_become ⟨rfl, rfl⟩ 1 hd_X4_become ⟨Nat.le_of_ble_eq_true rfl, Nat.le_of_ble_eq_true rfl⟩ rfl 1 rfl rfl rfl [1, 2, 6, 7] rfl (srt_nd 0 rfl) (ws' := w_X0_follow (xG g) a_this a_this_basis a_this_numbers a_this_keys a_this_twos a_this_basis_gaps a_p1 a_p1_gaps c_this_followed c_this_there c_this_held this_basis_size_24 this_basis_gaps_24 c_this_numbers c_this_keys c_this_twos c_p1_size c_p1_gaps) (Put.m rfl rfl rfl) rfl (rest := []) rfl (Nat.le_of_ble_eq_true rfl) ⟨Nat.zero_le _, Nat.zero_le _⟩ ?_
    refine r_aload_n C (pc := 27) dX0_follow_27 rfl 0 rfl ?_
    refine r_iconst C (pc := 28) dX0_follow_28 ?_
    refine r_putz C (pc := 29) dX0_follow_29 pf_X0_follow_18 h 0 rfl (Nat.le_of_ble_eq_true rfl) (ws' := w_X0_follow (xG g) a_this a_this_basis a_this_numbers a_this_keys a_this_twos a_this_basis_gaps a_p1 a_p1_gaps 1 c_this_there c_this_held this_basis_size_24 this_basis_gaps_24 c_this_numbers c_this_keys c_this_twos c_p1_size c_p1_gaps) rfl (fun h => ?_)
    refine r_aload_n C (pc := 32) dX0_follow_32 rfl 0 rfl ?_
    refine r_iconst C (pc := 33) dX0_follow_33 ?_
    refine r_puti C (pc := 34) dX0_follow_34 pf_X0_follow_36 0 rfl (Nat.le_of_ble_eq_true rfl) (ws' := w_X0_follow (xG g) a_this a_this_basis a_this_numbers a_this_keys a_this_twos a_this_basis_gaps a_p1 a_p1_gaps 1 c_this_there 0 this_basis_size_24 this_basis_gaps_24 c_this_numbers c_this_keys c_this_twos c_p1_size c_p1_gaps) rfl ?_
    refine r_aload_n C (pc := 37) dX0_follow_37 rfl 0 rfl ?_
    refine r_aload_n C (pc := 38) dX0_follow_38 rfl 0 rfl ?_
    refine r_get C (pc := 39) dX0_follow_39 gf_X0_follow_12 0 rfl rfl ?_
    obtain ⟨r42, e42, h⟩ := wp_b1 h
    refine b_cVi C (pc := 42) dX0_follow_42 (c_X4_isTable (xl g) (xG g) a_this_basis a_this_basis_gaps this_basis_size_24 this_basis_gaps_24 r42 e42) rfl gX0_follow_X4_isTable ⟨rfl, rfl⟩ 0 hd_X4_isTable ⟨Nat.le_of_ble_eq_true rfl, Nat.le_of_ble_eq_true rfl⟩ rfl 1 rfl rfl rfl [1, 2] rfl (srt_nd 0 rfl) (ws' := w_X0_follow (xG g) a_this a_this_basis a_this_numbers a_this_keys a_this_twos a_this_basis_gaps a_p1 a_p1_gaps 1 c_this_there 0 this_basis_size_24 this_basis_gaps_24 c_this_numbers c_this_keys c_this_twos c_p1_size c_p1_gaps) (Put.m rfl rfl rfl) rfl (rest := [.ref a_this]) rfl (Nat.le_of_ble_eq_true rfl) ⟨Nat.zero_le _, Nat.zero_le _⟩ ?_
    refine r_putz C (pc := 45) dX0_follow_45 pf_X0_follow_33 h 0 rfl (Nat.le_of_ble_eq_true rfl) (ws' := w_X0_follow (xG g) a_this a_this_basis a_this_numbers a_this_keys a_this_twos a_this_basis_gaps a_p1 a_p1_gaps 1 r42 0 this_basis_size_24 this_basis_gaps_24 c_this_numbers c_this_keys c_this_twos c_p1_size c_p1_gaps) rfl (fun h => ?_)
    refine r_aload_n C (pc := 48) dX0_follow_48 rfl 0 rfl ?_
    refine r_get C (pc := 49) dX0_follow_49 gf_X0_follow_33 0 rfl rfl ?_
    refine jn_e (fun (k71 : Int → (Nat → Int) → (Nat → Int64) → (Nat → Int) → Option (Int × Int × Int × Int × (Nat → Int) × (Nat → Int) × (Nat → Int64) × (Nat → Int))) => ∀ (this_held_71 : Int) (this_numbers_71 : Nat → Int) (this_keys_71 : Nat → Int64) (this_twos_71 : Nat → Int), wp (k71 this_held_71 this_numbers_71 this_keys_71 this_twos_71) K → WW g 0 0 (w_X0_follow (xG g) a_this a_this_basis a_this_numbers a_this_keys a_this_twos a_this_basis_gaps a_p1 a_p1_gaps 1 r42 this_held_71 this_basis_size_24 this_basis_gaps_24 this_numbers_71 this_keys_71 this_twos_71 c_p1_size c_p1_gaps) 71 [] []) h (fun this_held_71 this_numbers_71 this_keys_71 this_twos_71 h => ?_) (fun k71 hk71 h => ?_)
    · exact r_vret C (pc := 71) dX0_follow_71 (hK 1 r42 this_held_71 this_basis_size_24 this_basis_gaps_24 this_numbers_71 this_keys_71 this_twos_71 (wp_s h))
    · refine r_if_eq C (pc := 52) 71 dX0_follow_52 rfl h (fun c52 h => ?_) (fun c52 h => ?_)
      · refine r_sub [] rfl ?_
        exact hk71 0 c_this_numbers c_this_keys c_this_twos h
      · refine r_aload_n C (pc := 55) dX0_follow_55 rfl 0 rfl ?_
        obtain ⟨this_held_56, this_numbers_56, this_keys_56, e56, h⟩ := wp_b3 h
        refine b_cVv C (pc := 56) dX0_follow_56 (c_X0_addEyes (xl g) (xG g) a_this a_this_basis a_this_numbers a_this_keys a_this_twos a_this_basis_gaps 1 r42 0 this_basis_size_24 this_basis_gaps_24 c_this_numbers c_this_keys this_held_56 this_numbers_56 this_keys_56 e56) rfl gX0_follow_X0_addEyes ⟨rfl, rfl⟩ 0 hd_X0_addEyes ⟨Nat.le_of_ble_eq_true rfl, Nat.le_of_ble_eq_true rfl⟩ rfl 0 rfl rfl rfl [0, 1, 2, 3, 4] rfl (srt_nd 0 rfl) (ws' := w_X0_follow (xG g) a_this a_this_basis a_this_numbers a_this_keys a_this_twos a_this_basis_gaps a_p1 a_p1_gaps 1 r42 this_held_56 this_basis_size_24 this_basis_gaps_24 this_numbers_56 this_keys_56 c_this_twos c_p1_size c_p1_gaps) (Put.m rfl rfl rfl) rfl (rest := []) rfl (Nat.le_of_ble_eq_true rfl) ⟨Nat.zero_le _, Nat.zero_le _⟩ ?_
        refine r_aload_n C (pc := 59) dX0_follow_59 rfl 0 rfl ?_
        obtain ⟨this_held_60, this_numbers_60, this_keys_60, e60, h⟩ := wp_b3 h
        refine b_cVv C (pc := 60) dX0_follow_60 (c_X0_addRoundsOfThree (xl g) (xG g) a_this a_this_basis a_this_numbers a_this_keys a_this_twos a_this_basis_gaps 1 r42 this_held_56 this_basis_size_24 this_basis_gaps_24 this_numbers_56 this_keys_56 this_held_60 this_numbers_60 this_keys_60 e60) rfl gX0_follow_X0_addRoundsOfThree ⟨rfl, rfl⟩ 0 hd_X0_addRoundsOfThree ⟨Nat.le_of_ble_eq_true rfl, Nat.le_of_ble_eq_true rfl⟩ rfl 0 rfl rfl rfl [0, 1, 2, 3, 4] rfl (srt_nd 0 rfl) (ws' := w_X0_follow (xG g) a_this a_this_basis a_this_numbers a_this_keys a_this_twos a_this_basis_gaps a_p1 a_p1_gaps 1 r42 this_held_60 this_basis_size_24 this_basis_gaps_24 this_numbers_60 this_keys_60 c_this_twos c_p1_size c_p1_gaps) (Put.m rfl rfl rfl) rfl (rest := []) rfl (Nat.le_of_ble_eq_true rfl) ⟨Nat.zero_le _, Nat.zero_le _⟩ ?_
        refine r_aload_n C (pc := 63) dX0_follow_63 rfl 0 rfl ?_
        obtain ⟨this_held_64, this_numbers_64, this_keys_64, e64, h⟩ := wp_b3 h
        refine b_cVv C (pc := 64) dX0_follow_64 (c_X0_addRoundsOfFive (xl g) (xG g) a_this a_this_basis a_this_numbers a_this_keys a_this_twos a_this_basis_gaps 1 r42 this_held_60 this_basis_size_24 this_basis_gaps_24 this_numbers_60 this_keys_60 this_held_64 this_numbers_64 this_keys_64 e64) rfl gX0_follow_X0_addRoundsOfFive ⟨rfl, rfl⟩ 0 hd_X0_addRoundsOfFive ⟨Nat.le_of_ble_eq_true rfl, Nat.le_of_ble_eq_true rfl⟩ rfl 0 rfl rfl rfl [0, 1, 2, 3, 4] rfl (srt_nd 0 rfl) (ws' := w_X0_follow (xG g) a_this a_this_basis a_this_numbers a_this_keys a_this_twos a_this_basis_gaps a_p1 a_p1_gaps 1 r42 this_held_64 this_basis_size_24 this_basis_gaps_24 this_numbers_64 this_keys_64 c_this_twos c_p1_size c_p1_gaps) (Put.m rfl rfl rfl) rfl (rest := []) rfl (Nat.le_of_ble_eq_true rfl) ⟨Nat.zero_le _, Nat.zero_le _⟩ ?_
        refine r_aload_n C (pc := 67) dX0_follow_67 rfl 0 rfl ?_
        obtain ⟨this_numbers_68, this_twos_68, e68, h⟩ := wp_b2 h
        refine b_cVv C (pc := 68) dX0_follow_68 (c_X0_noteTwos (xl g) (xG g) a_this a_this_basis a_this_numbers a_this_keys a_this_twos a_this_basis_gaps 1 r42 this_held_64 this_basis_size_24 this_basis_gaps_24 this_numbers_64 this_keys_64 c_this_twos this_numbers_68 this_twos_68 e68) rfl gX0_follow_X0_noteTwos ⟨rfl, rfl⟩ 0 hd_X0_noteTwos ⟨Nat.le_of_ble_eq_true rfl, Nat.le_of_ble_eq_true rfl⟩ rfl 0 rfl rfl rfl [0, 1, 2, 3, 4, 5] rfl (srt_nd 0 rfl) (ws' := w_X0_follow (xG g) a_this a_this_basis a_this_numbers a_this_keys a_this_twos a_this_basis_gaps a_p1 a_p1_gaps 1 r42 this_held_64 this_basis_size_24 this_basis_gaps_24 this_numbers_68 this_keys_64 this_twos_68 c_p1_size c_p1_gaps) (Put.m rfl rfl rfl) rfl (rest := []) rfl (Nat.le_of_ble_eq_true rfl) ⟨Nat.zero_le _, Nat.zero_le _⟩ ?_
        refine r_sub [] rfl ?_
        exact hk71 this_held_64 this_numbers_68 this_keys_64 this_twos_68 h
  · refine r_if_eq C (pc := 4) 19 dX0_follow_4 rfl h (fun c4 h => ?_) (fun c4 h => ?_)
    · exact hk19 h
    · refine r_aload_n C (pc := 7) dX0_follow_7 rfl 0 rfl ?_
      refine r_get C (pc := 8) dX0_follow_8 gf_X0_follow_12 0 rfl rfl ?_
      refine r_aload_n C (pc := 11) dX0_follow_11 rfl 1 rfl ?_
      obtain ⟨r12, e12, h⟩ := wp_b1 h
      refine b_cVi C (pc := 12) dX0_follow_12 (c_X4_isLike (xl g) (xG g) a_this_basis a_this_basis_gaps a_p1 a_p1_gaps c_this_basis_size c_this_basis_gaps c_p1_size c_p1_gaps r12 e12) rfl gX0_follow_X4_isLike ⟨rfl, rfl⟩ 1 hd_X4_isLike ⟨Nat.le_of_ble_eq_true rfl, Nat.le_of_ble_eq_true rfl⟩ rfl 1 rfl rfl rfl [1, 2, 6, 7] rfl (srt_nd 0 rfl) (ws' := w_X0_follow (xG g) a_this a_this_basis a_this_numbers a_this_keys a_this_twos a_this_basis_gaps a_p1 a_p1_gaps c_this_followed c_this_there c_this_held c_this_basis_size c_this_basis_gaps c_this_numbers c_this_keys c_this_twos c_p1_size c_p1_gaps) (Put.m rfl rfl rfl) rfl (rest := []) rfl (Nat.le_of_ble_eq_true rfl) ⟨Nat.zero_le _, Nat.zero_le _⟩ ?_
      refine r_if_eq C (pc := 15) 19 dX0_follow_15 rfl h (fun c15 h => ?_) (fun c15 h => ?_)
      · exact hk19 h
      · exact r_vret C (pc := 18) dX0_follow_18 (hK c_this_followed c_this_there c_this_held c_this_basis_size c_this_basis_gaps c_this_numbers c_this_keys c_this_twos (wp_s h))
theorem c_X0_follow (l : Launch) (G : gG) (a_this : Nat) (a_this_basis : Nat) (a_this_numbers : Nat) (a_this_keys : Nat) (a_this_twos : Nat) (a_this_basis_gaps : Nat) (a_p1 : Nat) (a_p1_gaps : Nat) (c_this_followed : Int) (c_this_there : Int) (c_this_held : Int) (c_this_basis_size : Int) (c_this_basis_gaps : Nat → Int) (c_this_numbers : Nat → Int) (c_this_keys : Nat → Int64) (c_this_twos : Nat → Int) (c_p1_size : Int) (c_p1_gaps : Nat → Int) (o0 : Int) (o1 : Int) (o2 : Int) (o3 : Int) (o4 : Nat → Int) (o5 : Nat → Int) (o6 : Nat → Int64) (o7 : Nat → Int) (hf : f_X0_follow c_this_followed c_this_there c_this_held c_this_basis_size c_this_basis_gaps c_this_numbers c_this_keys c_this_twos c_p1_size c_p1_gaps = some (o0, o1, o2, o3, o4, o5, o6, o7)) : CTv l yX0_follow wsX0_follow rm_X0_follow G (w_X0_follow G a_this a_this_basis a_this_numbers a_this_keys a_this_twos a_this_basis_gaps a_p1 a_p1_gaps c_this_followed c_this_there c_this_held c_this_basis_size c_this_basis_gaps c_this_numbers c_this_keys c_this_twos c_p1_size c_p1_gaps) [.ref a_this, .ref a_p1] (w_X0_follow G a_this a_this_basis a_this_numbers a_this_keys a_this_twos a_this_basis_gaps a_p1 a_p1_gaps o0 o1 o2 o3 o4 o5 o6 o7 c_p1_size c_p1_gaps) := CTv_of (by decide) rfl rfl (Nat.le_of_ble_eq_true rfl) (fun g C hG hl hF => by
    subst hG
    subst hl
    exact k_X0_follow C a_this a_this_basis a_this_numbers a_this_keys a_this_twos a_this_basis_gaps a_p1 a_p1_gaps c_this_followed c_this_there c_this_held c_this_basis_size c_this_basis_gaps c_this_numbers c_this_keys c_this_twos c_p1_size c_p1_gaps (fun x => x = (o0, o1, o2, o3, o4, o5, o6, o7)) (fun o0' o1' o2' o3' o4' o5' o6' o7' e => by cases e; exact hF) ⟨_, hf, rfl⟩)

-- TightHulls$Hull.twosAt(I)I
def f_X0_twosAt (p1 : Int) (c_this_held : Int) (c_this_twos : Nat → Int) : Option Int := bd1 (f_X0_has p1 c_this_held) (fun r2 => jn (fun (s0_18 : Int) => some s0_18) (fun (k18 : Int → Option Int) => if eqI r2 0 = true then (k18 0) else (grd (iin p1 37) (k18 (c_this_twos (ix p1))))))
abbrev rm_X0_twosAt : Room := { frames := 1, cells := 0, slots := 0, locals := 21 }
abbrev w_X0_twosAt (G : gG) (a_this : Nat) (a_this_basis : Nat) (a_this_numbers : Nat) (a_this_keys : Nat) (a_this_twos : Nat) (c_this_followed : Int) (c_this_there : Int) (c_this_held : Int) (c_this_twos : Nat → Int) : va_W := [(a_this, .inr (0, [.ref a_this_basis, .int (jz c_this_followed), .ref a_this_numbers, .ref a_this_keys, .ref a_this_twos, .int (jz c_this_there), .int (jz c_this_held)])), (a_this_twos, aI G 37 c_this_twos)]
theorem hd_X0_twosAt : yX0_twosAt.cls = RX0 ∧ yX0_twosAt.cls ≠ "java/lang/invoke/MethodHandle" ∧ yX0_twosAt.cls ≠ "java/lang/invoke/VarHandle" ∧ (parseMethodDescriptor yX0_twosAt.desc).map (fun d => d.parameters.length) = some 1 := by decide +kernel
theorem in_X0_twosAt_X0 : ∀ w ∈ u_ws RX0 TX0 7, w ∈ wsX0_twosAt := fun w h => List.mem_cons_of_mem _ (List.mem_append_right _ (h))
theorem gf_X0_twosAt_30 : GF wsX0_twosAt RX0 30 0 4 := ⟨RX0, TX0, 7, rfl, in_X0_twosAt_X0, by decide, List.mem_of_getElem? (i := 1) rfl⟩
set_option maxRecDepth 100000 in
set_option maxHeartbeats 4000000 in
theorem k_X0_twosAt {g : XC} (C : XOk g cX0_twosAt RX0 wsX0_twosAt rm_X0_twosAt 2) (a_this : Nat) (a_this_basis : Nat) (a_this_numbers : Nat) (a_this_keys : Nat) (a_this_twos : Nat) (c_this_followed : Int) (c_this_there : Int) (c_this_held : Int) (c_this_twos : Nat → Int) (p1 : Int) (K : Int → Prop) (hK : ∀ (r : Int), K r → (narrow .int (.int (jz r)) = .int (jz r) → FinI g 0 0 (w_X0_twosAt (xG g) a_this a_this_basis a_this_numbers a_this_keys a_this_twos c_this_followed c_this_there c_this_held c_this_twos) (jz r))) (h : wp (f_X0_twosAt p1 c_this_held c_this_twos) K) : WW g 0 0 (w_X0_twosAt (xG g) a_this a_this_basis a_this_numbers a_this_keys a_this_twos c_this_followed c_this_there c_this_held c_this_twos) 0 [(0, .ref a_this), (1, .int (jz p1))] [] := by
  unfold f_X0_twosAt at h
  refine r_aload_n C (pc := 0) dX0_twosAt_0 rfl 0 rfl ?_
  refine r_iload_n C (pc := 1) dX0_twosAt_1 rfl 1 rfl ?_
  obtain ⟨r2, e2, h⟩ := wp_b1 h
  refine b_cVi C (pc := 2) dX0_twosAt_2 (c_X0_has (xl g) (xG g) a_this a_this_basis a_this_numbers a_this_keys a_this_twos c_this_followed c_this_there c_this_held p1 r2 e2) rfl gX0_twosAt_X0_has ⟨rfl, rfl⟩ 1 hd_X0_has ⟨Nat.le_of_ble_eq_true rfl, Nat.le_of_ble_eq_true rfl⟩ rfl 0 rfl rfl rfl [0] rfl (srt_nd 0 rfl) (ws' := w_X0_twosAt (xG g) a_this a_this_basis a_this_numbers a_this_keys a_this_twos c_this_followed c_this_there c_this_held c_this_twos) (Put.m rfl rfl rfl) rfl (rest := []) rfl (Nat.le_of_ble_eq_true rfl) ⟨Nat.zero_le _, Nat.zero_le _⟩ ?_
  refine jn_e (fun (k18 : Int → Option Int) => ∀ (s0_18 : Int), wp (k18 s0_18) K → WW g 0 0 (w_X0_twosAt (xG g) a_this a_this_basis a_this_numbers a_this_keys a_this_twos c_this_followed c_this_there c_this_held c_this_twos) 18 [] [.int (jz s0_18)]) h (fun s0_18 h => ?_) (fun k18 hk18 h => ?_)
  · exact r_iret C (pc := 18) dX0_twosAt_18 (hK s0_18 (wp_s h) rfl)
  · refine r_if_eq C (pc := 5) 17 dX0_twosAt_5 rfl h (fun c5 h => ?_) (fun c5 h => ?_)
    · refine r_iconst C (pc := 17) dX0_twosAt_17 ?_
      refine r_sub [] rfl ?_
      exact hk18 0 h
    · refine r_aload_n C (pc := 8) dX0_twosAt_8 rfl 0 rfl ?_
      refine r_get C (pc := 9) dX0_twosAt_9 gf_X0_twosAt_30 0 rfl rfl ?_
      refine r_iload_n C (pc := 12) dX0_twosAt_12 rfl 1 rfl ?_
      refine r_iald C (pc := 13) dX0_twosAt_13 h 1 rfl (fun h => ?_)
      refine r_goto C (pc := 14) 18 dX0_twosAt_14 rfl ?_
      refine r_sub [] rfl ?_
      exact hk18 (c_this_twos (ix p1)) h
theorem c_X0_twosAt (l : Launch) (G : gG) (a_this : Nat) (a_this_basis : Nat) (a_this_numbers : Nat) (a_this_keys : Nat) (a_this_twos : Nat) (c_this_followed : Int) (c_this_there : Int) (c_this_held : Int) (c_this_twos : Nat → Int) (p1 : Int) (r : Int) (hf : f_X0_twosAt p1 c_this_held c_this_twos = some r) : CTi l yX0_twosAt wsX0_twosAt rm_X0_twosAt G (w_X0_twosAt G a_this a_this_basis a_this_numbers a_this_keys a_this_twos c_this_followed c_this_there c_this_held c_this_twos) [.ref a_this, .int (jz p1)] (jz r) (w_X0_twosAt G a_this a_this_basis a_this_numbers a_this_keys a_this_twos c_this_followed c_this_there c_this_held c_this_twos) := CTi_of (by decide) rfl rfl (Nat.le_of_ble_eq_true rfl) (fun g C hG hl hF => by
    subst hG
    subst hl
    exact k_X0_twosAt C a_this a_this_basis a_this_numbers a_this_keys a_this_twos c_this_followed c_this_there c_this_held c_this_twos p1 (fun x => x = r) (fun r' e => by cases e; exact hF) ⟨_, hf, rfl⟩)

-- TightHulls$Hull.apart(II)I
def f_X0_apart (p1 : Int) (p2 : Int) (c_this_held : Int) (c_this_basis_size : Int) (c_this_keys : Nat → Int64) : Option Int := lq2 (fun (n5 : Int → Int → Option Int) (v3_5 : Int) (v4_5 : Int) => if ltI v4_5 c_this_basis_size = true then (bd1 (f_X0_number p1 v4_5 c_this_held c_this_basis_size c_this_keys) (fun r22 => bd1 (f_X0_number p2 v4_5 c_this_held c_this_basis_size c_this_keys) (fun r29 => lv ((maxI v3_5 (absI (r22 - r29)))) (fun x39 => n5 x39 (v4_5 + 1))))) else (some v3_5)) 300 0 0
abbrev rm_X0_apart : Room := { frames := 2, cells := 0, slots := 0, locals := 60 }
abbrev w_X0_apart (G : gG) (a_this : Nat) (a_this_basis : Nat) (a_this_numbers : Nat) (a_this_keys : Nat) (a_this_twos : Nat) (a_this_basis_gaps : Nat) (c_this_followed : Int) (c_this_there : Int) (c_this_held : Int) (c_this_basis_size : Int) (c_this_keys : Nat → Int64) : va_W := [(a_this, .inr (0, [.ref a_this_basis, .int (jz c_this_followed), .ref a_this_numbers, .ref a_this_keys, .ref a_this_twos, .int (jz c_this_there), .int (jz c_this_held)])), (a_this_basis, .inr (4, [.int (jz c_this_basis_size), .ref a_this_basis_gaps])), (a_this_keys, aJ G 37 c_this_keys)]
theorem hd_X0_apart : yX0_apart.cls = RX0 ∧ yX0_apart.cls ≠ "java/lang/invoke/MethodHandle" ∧ yX0_apart.cls ≠ "java/lang/invoke/VarHandle" ∧ (parseMethodDescriptor yX0_apart.desc).map (fun d => d.parameters.length) = some 2 := by decide +kernel
theorem in_X0_apart_X0 : ∀ w ∈ u_ws RX0 TX0 7, w ∈ wsX0_apart := fun w h => List.mem_cons_of_mem _ (List.mem_append_left _ (List.mem_append_right _ (h)))
theorem gf_X0_apart_12 : GF wsX0_apart RX0 12 0 0 := ⟨RX0, TX0, 7, rfl, in_X0_apart_X0, by decide, List.mem_of_getElem? (i := 1) rfl⟩
theorem in_X0_apart_X4 : ∀ w ∈ u_ws RX4 TX4 2, w ∈ wsX0_apart := fun w h => List.mem_cons_of_mem _ (List.mem_append_right _ (h))
theorem gf_X0_apart_64 : GF wsX0_apart RX0 64 4 0 := ⟨RX4, TX4, 2, rfl, in_X0_apart_X4, by decide, List.mem_of_getElem? (i := 2) rfl⟩
theorem mm_X0_apart_3 : Cond.methodLink RX0 113 Lib.Math.abs.name ∈ wsX0_apart := List.mem_of_getElem? (i := 3) rfl
theorem mm_X0_apart_4 : Cond.static Lib.Math.abs.name ∈ wsX0_apart := List.mem_of_getElem? (i := 4) rfl
theorem mm_X0_apart_5 : Cond.initialized "java/lang/Math" ∈ wsX0_apart := List.mem_of_getElem? (i := 5) rfl
theorem mm_X0_apart_6 : Cond.code Lib.Math.abs.name Lib.Math.abs.code 1 (some .int) ∈ wsX0_apart := List.mem_of_getElem? (i := 6) rfl
theorem mm_X0_apart_7 : Cond.methodLink RX0 119 Lib.Math.max.name ∈ wsX0_apart := List.mem_of_getElem? (i := 7) rfl
theorem mm_X0_apart_8 : Cond.static Lib.Math.max.name ∈ wsX0_apart := List.mem_of_getElem? (i := 8) rfl
theorem mm_X0_apart_9 : Cond.code Lib.Math.max.name Lib.Math.max.code 2 (some .int) ∈ wsX0_apart := List.mem_of_getElem? (i := 9) rfl
set_option maxRecDepth 100000 in
set_option maxHeartbeats 4000000 in
theorem k_X0_apart {g : XC} (C : XOk g cX0_apart RX0 wsX0_apart rm_X0_apart 5) (a_this : Nat) (a_this_basis : Nat) (a_this_numbers : Nat) (a_this_keys : Nat) (a_this_twos : Nat) (a_this_basis_gaps : Nat) (c_this_followed : Int) (c_this_there : Int) (c_this_held : Int) (c_this_basis_size : Int) (c_this_keys : Nat → Int64) (p1 : Int) (p2 : Int) (K : Int → Prop) (hK : ∀ (r : Int), K r → (narrow .int (.int (jz r)) = .int (jz r) → FinI g 0 0 (w_X0_apart (xG g) a_this a_this_basis a_this_numbers a_this_keys a_this_twos a_this_basis_gaps c_this_followed c_this_there c_this_held c_this_basis_size c_this_keys) (jz r))) (h : wp (f_X0_apart p1 p2 c_this_held c_this_basis_size c_this_keys) K) : WW g 0 0 (w_X0_apart (xG g) a_this a_this_basis a_this_numbers a_this_keys a_this_twos a_this_basis_gaps c_this_followed c_this_there c_this_held c_this_basis_size c_this_keys) 0 [(0, .ref a_this), (1, .int (jz p1)), (2, .int (jz p2))] [] := by
  unfold f_X0_apart at h
  refine r_iconst C (pc := 0) dX0_apart_0 ?_
  refine r_istore_n C (pc := 1) dX0_apart_1 rfl (by decide) (L' := [(0, .ref a_this), (1, .int (jz p1)), (2, .int (jz p2)), (3, .int (jz 0))]) rfl ?_
  refine r_iconst C (pc := 2) dX0_apart_2 ?_
  refine r_istore C (pc := 3) dX0_apart_3 (by decide) (L' := [(0, .ref a_this), (1, .int (jz p1)), (2, .int (jz p2)), (3, .int (jz 0)), (4, .int (jz 0))]) rfl ?_
  refine lq2_e (fun (v3_5 : Int) (v4_5 : Int) => WW g 0 0 (w_X0_apart (xG g) a_this a_this_basis a_this_numbers a_this_keys a_this_twos a_this_basis_gaps c_this_followed c_this_there c_this_held c_this_basis_size c_this_keys) 5 [(0, .ref a_this), (1, .int (jz p1)), (2, .int (jz p2)), (3, .int (jz v3_5)), (4, .int (jz v4_5))] []) h (fun n5 hn5 v3_5 v4_5 h => ?_)
  refine r_iload C (pc := 5) dX0_apart_5 4 rfl ?_
  refine r_aload_n C (pc := 7) dX0_apart_7 rfl 0 rfl ?_
  refine r_get C (pc := 8) dX0_apart_8 gf_X0_apart_12 0 rfl rfl ?_
  refine r_get C (pc := 11) dX0_apart_11 gf_X0_apart_64 1 rfl rfl ?_
  refine r_icmp_ge C (pc := 14) 46 dX0_apart_14 rfl h (fun c14 h => ?_) (fun c14 h => ?_)
  · refine r_iload_n C (pc := 46) dX0_apart_46 rfl 3 rfl ?_
    exact r_iret C (pc := 47) dX0_apart_47 (hK v3_5 (wp_s h) rfl)
  · refine r_iload_n C (pc := 17) dX0_apart_17 rfl 3 rfl ?_
    refine r_aload_n C (pc := 18) dX0_apart_18 rfl 0 rfl ?_
    refine r_iload_n C (pc := 19) dX0_apart_19 rfl 1 rfl ?_
    refine r_iload C (pc := 20) dX0_apart_20 4 rfl ?_
    obtain ⟨r22, e22, h⟩ := wp_b1 h
    refine b_cVi C (pc := 22) dX0_apart_22 (c_X0_number (xl g) (xG g) a_this a_this_basis a_this_numbers a_this_keys a_this_twos a_this_basis_gaps c_this_followed c_this_there c_this_held c_this_basis_size c_this_keys p1 v4_5 r22 e22) rfl gX0_apart_X0_number ⟨rfl, rfl⟩ 2 hd_X0_number ⟨Nat.le_of_ble_eq_true rfl, Nat.le_of_ble_eq_true rfl⟩ rfl 0 rfl rfl rfl [0, 1, 2] rfl (srt_nd 0 rfl) (ws' := w_X0_apart (xG g) a_this a_this_basis a_this_numbers a_this_keys a_this_twos a_this_basis_gaps c_this_followed c_this_there c_this_held c_this_basis_size c_this_keys) (Put.m rfl rfl rfl) rfl (rest := [.int (jz v3_5)]) rfl (Nat.le_of_ble_eq_true rfl) ⟨Nat.zero_le _, Nat.zero_le _⟩ ?_
    refine r_aload_n C (pc := 25) dX0_apart_25 rfl 0 rfl ?_
    refine r_iload_n C (pc := 26) dX0_apart_26 rfl 2 rfl ?_
    refine r_iload C (pc := 27) dX0_apart_27 4 rfl ?_
    obtain ⟨r29, e29, h⟩ := wp_b1 h
    refine b_cVi C (pc := 29) dX0_apart_29 (c_X0_number (xl g) (xG g) a_this a_this_basis a_this_numbers a_this_keys a_this_twos a_this_basis_gaps c_this_followed c_this_there c_this_held c_this_basis_size c_this_keys p2 v4_5 r29 e29) rfl gX0_apart_X0_number ⟨rfl, rfl⟩ 2 hd_X0_number ⟨Nat.le_of_ble_eq_true rfl, Nat.le_of_ble_eq_true rfl⟩ rfl 0 rfl rfl rfl [0, 1, 2] rfl (srt_nd 0 rfl) (ws' := w_X0_apart (xG g) a_this a_this_basis a_this_numbers a_this_keys a_this_twos a_this_basis_gaps c_this_followed c_this_there c_this_held c_this_basis_size c_this_keys) (Put.m rfl rfl rfl) rfl (rest := [.int (jz r22), .int (jz v3_5)]) rfl (Nat.le_of_ble_eq_true rfl) ⟨Nat.zero_le _, Nat.zero_le _⟩ ?_
    refine r_isub C (pc := 32) dX0_apart_32 ?_
    refine r_mabs C (pc := 33) dX0_apart_33 mm_X0_apart_3 mm_X0_apart_4 mm_X0_apart_5 mm_X0_apart_6 (Nat.le_of_ble_eq_true rfl) (Nat.le_of_ble_eq_true rfl) ⟨Nat.zero_le _, Nat.zero_le _⟩ ?_
    refine r_mmax C (pc := 36) dX0_apart_36 mm_X0_apart_7 mm_X0_apart_8 mm_X0_apart_5 mm_X0_apart_9 (Nat.le_of_ble_eq_true rfl) (Nat.le_of_ble_eq_true rfl) ⟨Nat.zero_le _, Nat.zero_le _⟩ ?_
    refine r_let h (fun x39 h => ?_)
    refine r_istore_n C (pc := 39) dX0_apart_39 rfl (by decide) (L' := [(0, .ref a_this), (1, .int (jz p1)), (2, .int (jz p2)), (3, .int (jz x39)), (4, .int (jz v4_5))]) rfl ?_
    refine r_iinc C (pc := 40) dX0_apart_40 4 rfl (by decide) (L' := [(0, .ref a_this), (1, .int (jz p1)), (2, .int (jz p2)), (3, .int (jz x39)), (4, .int (jz (v4_5 + 1)))]) rfl ?_
    refine r_goto C (pc := 43) 5 dX0_apart_43 rfl ?_
    exact hn5 x39 (v4_5 + 1) h
theorem c_X0_apart (l : Launch) (G : gG) (a_this : Nat) (a_this_basis : Nat) (a_this_numbers : Nat) (a_this_keys : Nat) (a_this_twos : Nat) (a_this_basis_gaps : Nat) (c_this_followed : Int) (c_this_there : Int) (c_this_held : Int) (c_this_basis_size : Int) (c_this_keys : Nat → Int64) (p1 : Int) (p2 : Int) (r : Int) (hf : f_X0_apart p1 p2 c_this_held c_this_basis_size c_this_keys = some r) : CTi l yX0_apart wsX0_apart rm_X0_apart G (w_X0_apart G a_this a_this_basis a_this_numbers a_this_keys a_this_twos a_this_basis_gaps c_this_followed c_this_there c_this_held c_this_basis_size c_this_keys) [.ref a_this, .int (jz p1), .int (jz p2)] (jz r) (w_X0_apart G a_this a_this_basis a_this_numbers a_this_keys a_this_twos a_this_basis_gaps c_this_followed c_this_there c_this_held c_this_basis_size c_this_keys) := CTi_of (by decide) rfl rfl (Nat.le_of_ble_eq_true rfl) (fun g C hG hl hF => by
    subst hG
    subst hl
    exact k_X0_apart C a_this a_this_basis a_this_numbers a_this_keys a_this_twos a_this_basis_gaps c_this_followed c_this_there c_this_held c_this_basis_size c_this_keys p1 p2 (fun x => x = r) (fun r' e => by cases e; exact hF) ⟨_, hf, rfl⟩)

-- TightHulls$Hull.areBeside(II)Z
def f_X0_areBeside (p1 : Int) (p2 : Int) (c_this_held : Int) (c_this_basis_size : Int) (c_this_twos : Nat → Int) : Option Int := bd1 (f_X0_twosAt p1 c_this_held c_this_twos) (fun r2 => bd1 (f_X0_twosAt p2 c_this_held c_this_twos) (fun r7 => lv ((andI r2 r7)) (fun x11 => jn (some 0) (fun (k31 : Option Int) => if eqI p1 p2 = true then k31 else (bd1 (f_X7_coverAll c_this_basis_size x11) (fun r25 => if eqI r25 0 = true then k31 else (lq1 (fun (n36 : Int → Option Int) (v4_36 : Int) => if ltI v4_36 c_this_held = true then (jn (n36 (v4_36 + 1)) (fun (k72 : Option Int) => if eqI v4_36 p1 = true then k72 else (if eqI v4_36 p2 = true then k72 else (grd (iin v4_36 37) (if eqI (andI (c_this_twos (ix v4_36)) x11) x11 = true then (some 0) else k72))))) else (some 1)) 300 0)))))))
abbrev rm_X0_areBeside : Room := { frames := 2, cells := 0, slots := 0, locals := 43 }
abbrev w_X0_areBeside (G : gG) (a_this : Nat) (a_this_basis : Nat) (a_this_numbers : Nat) (a_this_keys : Nat) (a_this_twos : Nat) (a_this_basis_gaps : Nat) (c_this_followed : Int) (c_this_there : Int) (c_this_held : Int) (c_this_basis_size : Int) (c_this_twos : Nat → Int) : va_W := [(a_this, .inr (0, [.ref a_this_basis, .int (jz c_this_followed), .ref a_this_numbers, .ref a_this_keys, .ref a_this_twos, .int (jz c_this_there), .int (jz c_this_held)])), (a_this_basis, .inr (4, [.int (jz c_this_basis_size), .ref a_this_basis_gaps])), (a_this_twos, aI G 37 c_this_twos)]
theorem hd_X0_areBeside : yX0_areBeside.cls = RX0 ∧ yX0_areBeside.cls ≠ "java/lang/invoke/MethodHandle" ∧ yX0_areBeside.cls ≠ "java/lang/invoke/VarHandle" ∧ (parseMethodDescriptor yX0_areBeside.desc).map (fun d => d.parameters.length) = some 2 := by decide +kernel
theorem in_X0_areBeside_X0 : ∀ w ∈ u_ws RX0 TX0 7, w ∈ wsX0_areBeside := fun w h => List.mem_cons_of_mem _ (List.mem_append_left _ (List.mem_append_right _ (h)))
theorem gf_X0_areBeside_12 : GF wsX0_areBeside RX0 12 0 0 := ⟨RX0, TX0, 7, rfl, in_X0_areBeside_X0, by decide, List.mem_of_getElem? (i := 1) rfl⟩
theorem in_X0_areBeside_X4 : ∀ w ∈ u_ws RX4 TX4 2, w ∈ wsX0_areBeside := fun w h => List.mem_cons_of_mem _ (List.mem_append_right _ (h))
theorem gf_X0_areBeside_64 : GF wsX0_areBeside RX0 64 4 0 := ⟨RX4, TX4, 2, rfl, in_X0_areBeside_X4, by decide, List.mem_of_getElem? (i := 2) rfl⟩
theorem gf_X0_areBeside_36 : GF wsX0_areBeside RX0 36 0 6 := ⟨RX0, TX0, 7, rfl, in_X0_areBeside_X0, by decide, List.mem_of_getElem? (i := 3) rfl⟩
theorem gf_X0_areBeside_30 : GF wsX0_areBeside RX0 30 0 4 := ⟨RX0, TX0, 7, rfl, in_X0_areBeside_X0, by decide, List.mem_of_getElem? (i := 4) rfl⟩
set_option maxRecDepth 100000 in
set_option maxHeartbeats 4000000 in
theorem k_X0_areBeside {g : XC} (C : XOk g cX0_areBeside RX0 wsX0_areBeside rm_X0_areBeside 5) (a_this : Nat) (a_this_basis : Nat) (a_this_numbers : Nat) (a_this_keys : Nat) (a_this_twos : Nat) (a_this_basis_gaps : Nat) (c_this_followed : Int) (c_this_there : Int) (c_this_held : Int) (c_this_basis_size : Int) (c_this_twos : Nat → Int) (p1 : Int) (p2 : Int) (K : Int → Prop) (hK : ∀ (r : Int), K r → (narrow .boolean (.int (jz r)) = .int (jz r) → FinI g 0 0 (w_X0_areBeside (xG g) a_this a_this_basis a_this_numbers a_this_keys a_this_twos a_this_basis_gaps c_this_followed c_this_there c_this_held c_this_basis_size c_this_twos) (jz r))) (h : wp (f_X0_areBeside p1 p2 c_this_held c_this_basis_size c_this_twos) K) : WW g 0 0 (w_X0_areBeside (xG g) a_this a_this_basis a_this_numbers a_this_keys a_this_twos a_this_basis_gaps c_this_followed c_this_there c_this_held c_this_basis_size c_this_twos) 0 [(0, .ref a_this), (1, .int (jz p1)), (2, .int (jz p2))] [] := by
  unfold f_X0_areBeside at h
  refine r_aload_n C (pc := 0) dX0_areBeside_0 rfl 0 rfl ?_
  refine r_iload_n C (pc := 1) dX0_areBeside_1 rfl 1 rfl ?_
  obtain ⟨r2, e2, h⟩ := wp_b1 h
  refine b_cVi C (pc := 2) dX0_areBeside_2 (c_X0_twosAt (xl g) (xG g) a_this a_this_basis a_this_numbers a_this_keys a_this_twos c_this_followed c_this_there c_this_held c_this_twos p1 r2 e2) rfl gX0_areBeside_X0_twosAt ⟨rfl, rfl⟩ 1 hd_X0_twosAt ⟨Nat.le_of_ble_eq_true rfl, Nat.le_of_ble_eq_true rfl⟩ rfl 0 rfl rfl rfl [0, 2] rfl (srt_nd 0 rfl) (ws' := w_X0_areBeside (xG g) a_this a_this_basis a_this_numbers a_this_keys a_this_twos a_this_basis_gaps c_this_followed c_this_there c_this_held c_this_basis_size c_this_twos) (Put.m rfl rfl rfl) rfl (rest := []) rfl (Nat.le_of_ble_eq_true rfl) ⟨Nat.zero_le _, Nat.zero_le _⟩ ?_
  refine r_aload_n C (pc := 5) dX0_areBeside_5 rfl 0 rfl ?_
  refine r_iload_n C (pc := 6) dX0_areBeside_6 rfl 2 rfl ?_
  obtain ⟨r7, e7, h⟩ := wp_b1 h
  refine b_cVi C (pc := 7) dX0_areBeside_7 (c_X0_twosAt (xl g) (xG g) a_this a_this_basis a_this_numbers a_this_keys a_this_twos c_this_followed c_this_there c_this_held c_this_twos p2 r7 e7) rfl gX0_areBeside_X0_twosAt ⟨rfl, rfl⟩ 1 hd_X0_twosAt ⟨Nat.le_of_ble_eq_true rfl, Nat.le_of_ble_eq_true rfl⟩ rfl 0 rfl rfl rfl [0, 2] rfl (srt_nd 0 rfl) (ws' := w_X0_areBeside (xG g) a_this a_this_basis a_this_numbers a_this_keys a_this_twos a_this_basis_gaps c_this_followed c_this_there c_this_held c_this_basis_size c_this_twos) (Put.m rfl rfl rfl) rfl (rest := [.int (jz r2)]) rfl (Nat.le_of_ble_eq_true rfl) ⟨Nat.zero_le _, Nat.zero_le _⟩ ?_
  refine r_iand C (pc := 10) dX0_areBeside_10 ?_
  refine r_let h (fun x11 h => ?_)
  refine r_istore_n C (pc := 11) dX0_areBeside_11 rfl (by decide) (L' := [(0, .ref a_this), (1, .int (jz p1)), (2, .int (jz p2)), (3, .int (jz x11))]) rfl ?_
  refine r_iload_n C (pc := 12) dX0_areBeside_12 rfl 1 rfl ?_
  refine r_iload_n C (pc := 13) dX0_areBeside_13 rfl 2 rfl ?_
  refine jn_e (fun (k31 : Option Int) => wp (k31) K → WW g 0 0 (w_X0_areBeside (xG g) a_this a_this_basis a_this_numbers a_this_keys a_this_twos a_this_basis_gaps c_this_followed c_this_there c_this_held c_this_basis_size c_this_twos) 31 [] []) h (fun h => ?_) (fun k31 hk31 h => ?_)
  · refine r_iconst C (pc := 31) dX0_areBeside_31 ?_
    exact r_iret C (pc := 32) dX0_areBeside_32 (hK 0 (wp_s h) (nB rfl).1)
  · refine r_icmp_eq C (pc := 14) 31 dX0_areBeside_14 rfl h (fun c14 h => ?_) (fun c14 h => ?_)
    · refine r_sub [] rfl ?_
      exact hk31 h
    · refine r_aload_n C (pc := 17) dX0_areBeside_17 rfl 0 rfl ?_
      refine r_get C (pc := 18) dX0_areBeside_18 gf_X0_areBeside_12 0 rfl rfl ?_
      refine r_get C (pc := 21) dX0_areBeside_21 gf_X0_areBeside_64 1 rfl rfl ?_
      refine r_iload_n C (pc := 24) dX0_areBeside_24 rfl 3 rfl ?_
      obtain ⟨r25, e25, h⟩ := wp_b1 h
      refine b_cSi C (pc := 25) dX0_areBeside_25 (c_X7_coverAll (xl g) (xG g) c_this_basis_size x11 r25 e25) rfl gX0_areBeside_X7_coverAll ⟨rfl, rfl⟩ 2 hd_X7_coverAll ⟨Nat.le_of_ble_eq_true rfl, Nat.le_of_ble_eq_true rfl⟩ rfl [] rfl (srt_nd 0 rfl) (ws' := w_X0_areBeside (xG g) a_this a_this_basis a_this_numbers a_this_keys a_this_twos a_this_basis_gaps c_this_followed c_this_there c_this_held c_this_basis_size c_this_twos) (Put.m rfl rfl rfl) rfl (rest := []) rfl (Nat.le_of_ble_eq_true rfl) ⟨Nat.zero_le _, Nat.zero_le _⟩ ?_
      refine r_if_ne C (pc := 28) 33 dX0_areBeside_28 rfl h (fun c28 h => ?_) (fun c28 h => ?_)
      · refine r_iconst C (pc := 33) dX0_areBeside_33 ?_
        refine r_istore C (pc := 34) dX0_areBeside_34 (by decide) (L' := [(0, .ref a_this), (1, .int (jz p1)), (2, .int (jz p2)), (3, .int (jz x11)), (4, .int (jz 0))]) rfl ?_
        refine lq1_e (fun (v4_36 : Int) => WW g 0 0 (w_X0_areBeside (xG g) a_this a_this_basis a_this_numbers a_this_keys a_this_twos a_this_basis_gaps c_this_followed c_this_there c_this_held c_this_basis_size c_this_twos) 36 [(0, .ref a_this), (1, .int (jz p1)), (2, .int (jz p2)), (3, .int (jz x11)), (4, .int (jz v4_36))] []) h (fun n36 hn36 v4_36 h => ?_)
        refine r_iload C (pc := 36) dX0_areBeside_36 4 rfl ?_
        refine r_aload_n C (pc := 38) dX0_areBeside_38 rfl 0 rfl ?_
        refine r_get C (pc := 39) dX0_areBeside_39 gf_X0_areBeside_36 0 rfl rfl ?_
        refine r_icmp_ge C (pc := 42) 78 dX0_areBeside_42 rfl h (fun c42 h => ?_) (fun c42 h => ?_)
        · refine r_iconst C (pc := 78) dX0_areBeside_78 ?_
          exact r_iret C (pc := 79) dX0_areBeside_79 (hK 1 (wp_s h) (nB rfl).1)
        · refine r_iload C (pc := 45) dX0_areBeside_45 4 rfl ?_
          refine r_iload_n C (pc := 47) dX0_areBeside_47 rfl 1 rfl ?_
          refine jn_e (fun (k72 : Option Int) => wp (k72) K → WW g 0 0 (w_X0_areBeside (xG g) a_this a_this_basis a_this_numbers a_this_keys a_this_twos a_this_basis_gaps c_this_followed c_this_there c_this_held c_this_basis_size c_this_twos) 72 [(0, .ref a_this), (1, .int (jz p1)), (2, .int (jz p2)), (3, .int (jz x11)), (4, .int (jz v4_36))] []) h (fun h => ?_) (fun k72 hk72 h => ?_)
          · refine r_iinc C (pc := 72) dX0_areBeside_72 4 rfl (by decide) (L' := [(0, .ref a_this), (1, .int (jz p1)), (2, .int (jz p2)), (3, .int (jz x11)), (4, .int (jz (v4_36 + 1)))]) rfl ?_
            refine r_goto C (pc := 75) 36 dX0_areBeside_75 rfl ?_
            exact hn36 (v4_36 + 1) h
          · refine r_icmp_eq C (pc := 48) 72 dX0_areBeside_48 rfl h (fun c48 h => ?_) (fun c48 h => ?_)
            · exact hk72 h
            · refine r_iload C (pc := 51) dX0_areBeside_51 4 rfl ?_
              refine r_iload_n C (pc := 53) dX0_areBeside_53 rfl 2 rfl ?_
              refine r_icmp_eq C (pc := 54) 72 dX0_areBeside_54 rfl h (fun c54 h => ?_) (fun c54 h => ?_)
              · exact hk72 h
              · refine r_aload_n C (pc := 57) dX0_areBeside_57 rfl 0 rfl ?_
                refine r_get C (pc := 58) dX0_areBeside_58 gf_X0_areBeside_30 0 rfl rfl ?_
                refine r_iload C (pc := 61) dX0_areBeside_61 4 rfl ?_
                refine r_iald C (pc := 63) dX0_areBeside_63 h 2 rfl (fun h => ?_)
                refine r_iload_n C (pc := 64) dX0_areBeside_64 rfl 3 rfl ?_
                refine r_iand C (pc := 65) dX0_areBeside_65 ?_
                refine r_iload_n C (pc := 66) dX0_areBeside_66 rfl 3 rfl ?_
                refine r_icmp_ne C (pc := 67) 72 dX0_areBeside_67 rfl h (fun c67 h => ?_) (fun c67 h => ?_)
                · exact hk72 h
                · refine r_iconst C (pc := 70) dX0_areBeside_70 ?_
                  exact r_iret C (pc := 71) dX0_areBeside_71 (hK 0 (wp_s h) (nB rfl).1)
      · refine r_sub [] rfl ?_
        exact hk31 h
theorem c_X0_areBeside (l : Launch) (G : gG) (a_this : Nat) (a_this_basis : Nat) (a_this_numbers : Nat) (a_this_keys : Nat) (a_this_twos : Nat) (a_this_basis_gaps : Nat) (c_this_followed : Int) (c_this_there : Int) (c_this_held : Int) (c_this_basis_size : Int) (c_this_twos : Nat → Int) (p1 : Int) (p2 : Int) (r : Int) (hf : f_X0_areBeside p1 p2 c_this_held c_this_basis_size c_this_twos = some r) : CTi l yX0_areBeside wsX0_areBeside rm_X0_areBeside G (w_X0_areBeside G a_this a_this_basis a_this_numbers a_this_keys a_this_twos a_this_basis_gaps c_this_followed c_this_there c_this_held c_this_basis_size c_this_twos) [.ref a_this, .int (jz p1), .int (jz p2)] (jz r) (w_X0_areBeside G a_this a_this_basis a_this_numbers a_this_keys a_this_twos a_this_basis_gaps c_this_followed c_this_there c_this_held c_this_basis_size c_this_twos) := CTi_of (by decide) rfl rfl (Nat.le_of_ble_eq_true rfl) (fun g C hG hl hF => by
    subst hG
    subst hl
    exact k_X0_areBeside C a_this a_this_basis a_this_numbers a_this_keys a_this_twos a_this_basis_gaps c_this_followed c_this_there c_this_held c_this_basis_size c_this_twos p1 p2 (fun x => x = r) (fun r' e => by cases e; exact hF) ⟨_, hf, rfl⟩)

-- TightHulls$Hull.neighbours(I)I
def f_X0_neighbours (p1 : Int) (c_this_held : Int) (c_this_basis_size : Int) (c_this_twos : Nat → Int) : Option Int := lq2 (fun (n4 : Int → Int → Option Int) (v2_4 : Int) (v3_4 : Int) => if ltI v3_4 c_this_held = true then (bd1 (f_X0_areBeside p1 v3_4 c_this_held c_this_basis_size c_this_twos) (fun r16 => jn (fun (s1_27 : Int) => lv ((v2_4 + s1_27)) (fun x28 => n4 x28 (v3_4 + 1))) (fun (k27 : Int → Option Int) => if eqI r16 0 = true then (k27 0) else (k27 1)))) else (some v2_4)) 300 0 0
abbrev rm_X0_neighbours : Room := { frames := 3, cells := 0, slots := 0, locals := 67 }
abbrev w_X0_neighbours (G : gG) (a_this : Nat) (a_this_basis : Nat) (a_this_numbers : Nat) (a_this_keys : Nat) (a_this_twos : Nat) (a_this_basis_gaps : Nat) (c_this_followed : Int) (c_this_there : Int) (c_this_held : Int) (c_this_basis_size : Int) (c_this_twos : Nat → Int) : va_W := [(a_this, .inr (0, [.ref a_this_basis, .int (jz c_this_followed), .ref a_this_numbers, .ref a_this_keys, .ref a_this_twos, .int (jz c_this_there), .int (jz c_this_held)])), (a_this_basis, .inr (4, [.int (jz c_this_basis_size), .ref a_this_basis_gaps])), (a_this_twos, aI G 37 c_this_twos)]
theorem hd_X0_neighbours : yX0_neighbours.cls = RX0 ∧ yX0_neighbours.cls ≠ "java/lang/invoke/MethodHandle" ∧ yX0_neighbours.cls ≠ "java/lang/invoke/VarHandle" ∧ (parseMethodDescriptor yX0_neighbours.desc).map (fun d => d.parameters.length) = some 1 := by decide +kernel
theorem in_X0_neighbours_X0 : ∀ w ∈ u_ws RX0 TX0 7, w ∈ wsX0_neighbours := fun w h => List.mem_cons_of_mem _ (List.mem_append_left _ (List.mem_append_right _ (h)))
theorem gf_X0_neighbours_36 : GF wsX0_neighbours RX0 36 0 6 := ⟨RX0, TX0, 7, rfl, in_X0_neighbours_X0, by decide, List.mem_of_getElem? (i := 1) rfl⟩
set_option maxRecDepth 100000 in
set_option maxHeartbeats 4000000 in
theorem k_X0_neighbours {g : XC} (C : XOk g cX0_neighbours RX0 wsX0_neighbours rm_X0_neighbours 4) (a_this : Nat) (a_this_basis : Nat) (a_this_numbers : Nat) (a_this_keys : Nat) (a_this_twos : Nat) (a_this_basis_gaps : Nat) (c_this_followed : Int) (c_this_there : Int) (c_this_held : Int) (c_this_basis_size : Int) (c_this_twos : Nat → Int) (p1 : Int) (K : Int → Prop) (hK : ∀ (r : Int), K r → (narrow .int (.int (jz r)) = .int (jz r) → FinI g 0 0 (w_X0_neighbours (xG g) a_this a_this_basis a_this_numbers a_this_keys a_this_twos a_this_basis_gaps c_this_followed c_this_there c_this_held c_this_basis_size c_this_twos) (jz r))) (h : wp (f_X0_neighbours p1 c_this_held c_this_basis_size c_this_twos) K) : WW g 0 0 (w_X0_neighbours (xG g) a_this a_this_basis a_this_numbers a_this_keys a_this_twos a_this_basis_gaps c_this_followed c_this_there c_this_held c_this_basis_size c_this_twos) 0 [(0, .ref a_this), (1, .int (jz p1))] [] := by
  unfold f_X0_neighbours at h
  refine r_iconst C (pc := 0) dX0_neighbours_0 ?_
  refine r_istore_n C (pc := 1) dX0_neighbours_1 rfl (by decide) (L' := [(0, .ref a_this), (1, .int (jz p1)), (2, .int (jz 0))]) rfl ?_
  refine r_iconst C (pc := 2) dX0_neighbours_2 ?_
  refine r_istore_n C (pc := 3) dX0_neighbours_3 rfl (by decide) (L' := [(0, .ref a_this), (1, .int (jz p1)), (2, .int (jz 0)), (3, .int (jz 0))]) rfl ?_
  refine lq2_e (fun (v2_4 : Int) (v3_4 : Int) => WW g 0 0 (w_X0_neighbours (xG g) a_this a_this_basis a_this_numbers a_this_keys a_this_twos a_this_basis_gaps c_this_followed c_this_there c_this_held c_this_basis_size c_this_twos) 4 [(0, .ref a_this), (1, .int (jz p1)), (2, .int (jz v2_4)), (3, .int (jz v3_4))] []) h (fun n4 hn4 v2_4 v3_4 h => ?_)
  refine r_iload_n C (pc := 4) dX0_neighbours_4 rfl 3 rfl ?_
  refine r_aload_n C (pc := 5) dX0_neighbours_5 rfl 0 rfl ?_
  refine r_get C (pc := 6) dX0_neighbours_6 gf_X0_neighbours_36 0 rfl rfl ?_
  refine r_icmp_ge C (pc := 9) 35 dX0_neighbours_9 rfl h (fun c9 h => ?_) (fun c9 h => ?_)
  · refine r_iload_n C (pc := 35) dX0_neighbours_35 rfl 2 rfl ?_
    exact r_iret C (pc := 36) dX0_neighbours_36 (hK v2_4 (wp_s h) rfl)
  · refine r_iload_n C (pc := 12) dX0_neighbours_12 rfl 2 rfl ?_
    refine r_aload_n C (pc := 13) dX0_neighbours_13 rfl 0 rfl ?_
    refine r_iload_n C (pc := 14) dX0_neighbours_14 rfl 1 rfl ?_
    refine r_iload_n C (pc := 15) dX0_neighbours_15 rfl 3 rfl ?_
    obtain ⟨r16, e16, h⟩ := wp_b1 h
    refine b_cVi C (pc := 16) dX0_neighbours_16 (c_X0_areBeside (xl g) (xG g) a_this a_this_basis a_this_numbers a_this_keys a_this_twos a_this_basis_gaps c_this_followed c_this_there c_this_held c_this_basis_size c_this_twos p1 v3_4 r16 e16) rfl gX0_neighbours_X0_areBeside ⟨rfl, rfl⟩ 2 hd_X0_areBeside ⟨Nat.le_of_ble_eq_true rfl, Nat.le_of_ble_eq_true rfl⟩ rfl 0 rfl rfl rfl [0, 1, 2] rfl (srt_nd 0 rfl) (ws' := w_X0_neighbours (xG g) a_this a_this_basis a_this_numbers a_this_keys a_this_twos a_this_basis_gaps c_this_followed c_this_there c_this_held c_this_basis_size c_this_twos) (Put.m rfl rfl rfl) rfl (rest := [.int (jz v2_4)]) rfl (Nat.le_of_ble_eq_true rfl) ⟨Nat.zero_le _, Nat.zero_le _⟩ ?_
    refine jn_e (fun (k27 : Int → Option Int) => ∀ (s1_27 : Int), wp (k27 s1_27) K → WW g 0 0 (w_X0_neighbours (xG g) a_this a_this_basis a_this_numbers a_this_keys a_this_twos a_this_basis_gaps c_this_followed c_this_there c_this_held c_this_basis_size c_this_twos) 27 [(0, .ref a_this), (1, .int (jz p1)), (3, .int (jz v3_4))] [.int (jz s1_27), .int (jz v2_4)]) h (fun s1_27 h => ?_) (fun k27 hk27 h => ?_)
    · refine r_iadd C (pc := 27) dX0_neighbours_27 ?_
      refine r_let h (fun x28 h => ?_)
      refine r_istore_n C (pc := 28) dX0_neighbours_28 rfl (by decide) (L' := [(0, .ref a_this), (1, .int (jz p1)), (2, .int (jz x28)), (3, .int (jz v3_4))]) rfl ?_
      refine r_iinc C (pc := 29) dX0_neighbours_29 3 rfl (by decide) (L' := [(0, .ref a_this), (1, .int (jz p1)), (2, .int (jz x28)), (3, .int (jz (v3_4 + 1)))]) rfl ?_
      refine r_goto C (pc := 32) 4 dX0_neighbours_32 rfl ?_
      exact hn4 x28 (v3_4 + 1) h
    · refine r_if_eq C (pc := 19) 26 dX0_neighbours_19 rfl h (fun c19 h => ?_) (fun c19 h => ?_)
      · refine r_iconst C (pc := 26) dX0_neighbours_26 ?_
        refine r_sub [0, 1, 3] rfl ?_
        exact hk27 0 h
      · refine r_iconst C (pc := 22) dX0_neighbours_22 ?_
        refine r_goto C (pc := 23) 27 dX0_neighbours_23 rfl ?_
        refine r_sub [0, 1, 3] rfl ?_
        exact hk27 1 h
theorem c_X0_neighbours (l : Launch) (G : gG) (a_this : Nat) (a_this_basis : Nat) (a_this_numbers : Nat) (a_this_keys : Nat) (a_this_twos : Nat) (a_this_basis_gaps : Nat) (c_this_followed : Int) (c_this_there : Int) (c_this_held : Int) (c_this_basis_size : Int) (c_this_twos : Nat → Int) (p1 : Int) (r : Int) (hf : f_X0_neighbours p1 c_this_held c_this_basis_size c_this_twos = some r) : CTi l yX0_neighbours wsX0_neighbours rm_X0_neighbours G (w_X0_neighbours G a_this a_this_basis a_this_numbers a_this_keys a_this_twos a_this_basis_gaps c_this_followed c_this_there c_this_held c_this_basis_size c_this_twos) [.ref a_this, .int (jz p1)] (jz r) (w_X0_neighbours G a_this a_this_basis a_this_numbers a_this_keys a_this_twos a_this_basis_gaps c_this_followed c_this_there c_this_held c_this_basis_size c_this_twos) := CTi_of (by decide) rfl rfl (Nat.le_of_ble_eq_true rfl) (fun g C hG hl hF => by
    subst hG
    subst hl
    exact k_X0_neighbours C a_this a_this_basis a_this_numbers a_this_keys a_this_twos a_this_basis_gaps c_this_followed c_this_there c_this_held c_this_basis_size c_this_twos p1 (fun x => x = r) (fun r' e => by cases e; exact hF) ⟨_, hf, rfl⟩)

-- TightHulls$Hull.ownerOf(I)I
def f_X0_ownerOf (p1 : Int) (c_this_held : Int) (c_this_basis_size : Int) (c_this_keys : Nat → Int64) : Option Int := lq1 (fun (n2 : Int → Option Int) (v2_2 : Int) => if ltI v2_2 c_this_basis_size = true then (bd1 (f_X0_number p1 v2_2 c_this_held c_this_basis_size c_this_keys) (fun r16 => if eqI r16 0 = true then (some v2_2) else (n2 (v2_2 + 1)))) else (some (-5))) 300 0
abbrev rm_X0_ownerOf : Room := { frames := 2, cells := 0, slots := 0, locals := 45 }
abbrev w_X0_ownerOf (G : gG) (a_this : Nat) (a_this_basis : Nat) (a_this_numbers : Nat) (a_this_keys : Nat) (a_this_twos : Nat) (a_this_basis_gaps : Nat) (c_this_followed : Int) (c_this_there : Int) (c_this_held : Int) (c_this_basis_size : Int) (c_this_keys : Nat → Int64) : va_W := [(a_this, .inr (0, [.ref a_this_basis, .int (jz c_this_followed), .ref a_this_numbers, .ref a_this_keys, .ref a_this_twos, .int (jz c_this_there), .int (jz c_this_held)])), (a_this_basis, .inr (4, [.int (jz c_this_basis_size), .ref a_this_basis_gaps])), (a_this_keys, aJ G 37 c_this_keys)]
theorem hd_X0_ownerOf : yX0_ownerOf.cls = RX0 ∧ yX0_ownerOf.cls ≠ "java/lang/invoke/MethodHandle" ∧ yX0_ownerOf.cls ≠ "java/lang/invoke/VarHandle" ∧ (parseMethodDescriptor yX0_ownerOf.desc).map (fun d => d.parameters.length) = some 1 := by decide +kernel
theorem in_X0_ownerOf_X0 : ∀ w ∈ u_ws RX0 TX0 7, w ∈ wsX0_ownerOf := fun w h => List.mem_cons_of_mem _ (List.mem_append_left _ (List.mem_append_right _ (h)))
theorem gf_X0_ownerOf_12 : GF wsX0_ownerOf RX0 12 0 0 := ⟨RX0, TX0, 7, rfl, in_X0_ownerOf_X0, by decide, List.mem_of_getElem? (i := 1) rfl⟩
theorem in_X0_ownerOf_X4 : ∀ w ∈ u_ws RX4 TX4 2, w ∈ wsX0_ownerOf := fun w h => List.mem_cons_of_mem _ (List.mem_append_right _ (h))
theorem gf_X0_ownerOf_64 : GF wsX0_ownerOf RX0 64 4 0 := ⟨RX4, TX4, 2, rfl, in_X0_ownerOf_X4, by decide, List.mem_of_getElem? (i := 2) rfl⟩
set_option maxRecDepth 100000 in
set_option maxHeartbeats 4000000 in
theorem k_X0_ownerOf {g : XC} (C : XOk g cX0_ownerOf RX0 wsX0_ownerOf rm_X0_ownerOf 3) (a_this : Nat) (a_this_basis : Nat) (a_this_numbers : Nat) (a_this_keys : Nat) (a_this_twos : Nat) (a_this_basis_gaps : Nat) (c_this_followed : Int) (c_this_there : Int) (c_this_held : Int) (c_this_basis_size : Int) (c_this_keys : Nat → Int64) (p1 : Int) (K : Int → Prop) (hK : ∀ (r : Int), K r → (narrow .int (.int (jz r)) = .int (jz r) → FinI g 0 0 (w_X0_ownerOf (xG g) a_this a_this_basis a_this_numbers a_this_keys a_this_twos a_this_basis_gaps c_this_followed c_this_there c_this_held c_this_basis_size c_this_keys) (jz r))) (h : wp (f_X0_ownerOf p1 c_this_held c_this_basis_size c_this_keys) K) : WW g 0 0 (w_X0_ownerOf (xG g) a_this a_this_basis a_this_numbers a_this_keys a_this_twos a_this_basis_gaps c_this_followed c_this_there c_this_held c_this_basis_size c_this_keys) 0 [(0, .ref a_this), (1, .int (jz p1))] [] := by
  unfold f_X0_ownerOf at h
  refine r_iconst C (pc := 0) dX0_ownerOf_0 ?_
  refine r_istore_n C (pc := 1) dX0_ownerOf_1 rfl (by decide) (L' := [(0, .ref a_this), (1, .int (jz p1)), (2, .int (jz 0))]) rfl ?_
  refine lq1_e (fun (v2_2 : Int) => WW g 0 0 (w_X0_ownerOf (xG g) a_this a_this_basis a_this_numbers a_this_keys a_this_twos a_this_basis_gaps c_this_followed c_this_there c_this_held c_this_basis_size c_this_keys) 2 [(0, .ref a_this), (1, .int (jz p1)), (2, .int (jz v2_2))] []) h (fun n2 hn2 v2_2 h => ?_)
  refine r_iload_n C (pc := 2) dX0_ownerOf_2 rfl 2 rfl ?_
  refine r_aload_n C (pc := 3) dX0_ownerOf_3 rfl 0 rfl ?_
  refine r_get C (pc := 4) dX0_ownerOf_4 gf_X0_ownerOf_12 0 rfl rfl ?_
  refine r_get C (pc := 7) dX0_ownerOf_7 gf_X0_ownerOf_64 1 rfl rfl ?_
  refine r_icmp_ge C (pc := 10) 30 dX0_ownerOf_10 rfl h (fun c10 h => ?_) (fun c10 h => ?_)
  · refine r_bipush C (pc := 30) dX0_ownerOf_30 rfl ?_
    exact r_iret C (pc := 32) dX0_ownerOf_32 (hK (-5) (wp_s h) rfl)
  · refine r_aload_n C (pc := 13) dX0_ownerOf_13 rfl 0 rfl ?_
    refine r_iload_n C (pc := 14) dX0_ownerOf_14 rfl 1 rfl ?_
    refine r_iload_n C (pc := 15) dX0_ownerOf_15 rfl 2 rfl ?_
    obtain ⟨r16, e16, h⟩ := wp_b1 h
    refine b_cVi C (pc := 16) dX0_ownerOf_16 (c_X0_number (xl g) (xG g) a_this a_this_basis a_this_numbers a_this_keys a_this_twos a_this_basis_gaps c_this_followed c_this_there c_this_held c_this_basis_size c_this_keys p1 v2_2 r16 e16) rfl gX0_ownerOf_X0_number ⟨rfl, rfl⟩ 2 hd_X0_number ⟨Nat.le_of_ble_eq_true rfl, Nat.le_of_ble_eq_true rfl⟩ rfl 0 rfl rfl rfl [0, 1, 2] rfl (srt_nd 0 rfl) (ws' := w_X0_ownerOf (xG g) a_this a_this_basis a_this_numbers a_this_keys a_this_twos a_this_basis_gaps c_this_followed c_this_there c_this_held c_this_basis_size c_this_keys) (Put.m rfl rfl rfl) rfl (rest := []) rfl (Nat.le_of_ble_eq_true rfl) ⟨Nat.zero_le _, Nat.zero_le _⟩ ?_
    refine r_if_ne C (pc := 19) 24 dX0_ownerOf_19 rfl h (fun c19 h => ?_) (fun c19 h => ?_)
    · refine r_iinc C (pc := 24) dX0_ownerOf_24 2 rfl (by decide) (L' := [(0, .ref a_this), (1, .int (jz p1)), (2, .int (jz (v2_2 + 1)))]) rfl ?_
      refine r_goto C (pc := 27) 2 dX0_ownerOf_27 rfl ?_
      exact hn2 (v2_2 + 1) h
    · refine r_iload_n C (pc := 22) dX0_ownerOf_22 rfl 2 rfl ?_
      exact r_iret C (pc := 23) dX0_ownerOf_23 (hK v2_2 (wp_s h) rfl)
theorem c_X0_ownerOf (l : Launch) (G : gG) (a_this : Nat) (a_this_basis : Nat) (a_this_numbers : Nat) (a_this_keys : Nat) (a_this_twos : Nat) (a_this_basis_gaps : Nat) (c_this_followed : Int) (c_this_there : Int) (c_this_held : Int) (c_this_basis_size : Int) (c_this_keys : Nat → Int64) (p1 : Int) (r : Int) (hf : f_X0_ownerOf p1 c_this_held c_this_basis_size c_this_keys = some r) : CTi l yX0_ownerOf wsX0_ownerOf rm_X0_ownerOf G (w_X0_ownerOf G a_this a_this_basis a_this_numbers a_this_keys a_this_twos a_this_basis_gaps c_this_followed c_this_there c_this_held c_this_basis_size c_this_keys) [.ref a_this, .int (jz p1)] (jz r) (w_X0_ownerOf G a_this a_this_basis a_this_numbers a_this_keys a_this_twos a_this_basis_gaps c_this_followed c_this_there c_this_held c_this_basis_size c_this_keys) := CTi_of (by decide) rfl rfl (Nat.le_of_ble_eq_true rfl) (fun g C hG hl hF => by
    subst hG
    subst hl
    exact k_X0_ownerOf C a_this a_this_basis a_this_numbers a_this_keys a_this_twos a_this_basis_gaps c_this_followed c_this_there c_this_held c_this_basis_size c_this_keys p1 (fun x => x = r) (fun r' e => by cases e; exact hF) ⟨_, hf, rfl⟩)

-- TightHulls$Hull.eyeOf(I)I
def f_X0_eyeOf (p1 : Int) (c_this_held : Int) (c_this_basis_size : Int) (c_this_keys : Nat → Int64) : Option Int := lq1 (fun (n2 : Int → Option Int) (v2_2 : Int) => if ltI v2_2 c_this_held = true then (bd1 (f_X0_number v2_2 p1 c_this_held c_this_basis_size c_this_keys) (fun r13 => if eqI r13 0 = true then (some v2_2) else (n2 (v2_2 + 1)))) else (some (-1))) 300 0
abbrev rm_X0_eyeOf : Room := { frames := 2, cells := 0, slots := 0, locals := 45 }
abbrev w_X0_eyeOf (G : gG) (a_this : Nat) (a_this_basis : Nat) (a_this_numbers : Nat) (a_this_keys : Nat) (a_this_twos : Nat) (a_this_basis_gaps : Nat) (c_this_followed : Int) (c_this_there : Int) (c_this_held : Int) (c_this_basis_size : Int) (c_this_keys : Nat → Int64) : va_W := [(a_this, .inr (0, [.ref a_this_basis, .int (jz c_this_followed), .ref a_this_numbers, .ref a_this_keys, .ref a_this_twos, .int (jz c_this_there), .int (jz c_this_held)])), (a_this_basis, .inr (4, [.int (jz c_this_basis_size), .ref a_this_basis_gaps])), (a_this_keys, aJ G 37 c_this_keys)]
theorem hd_X0_eyeOf : yX0_eyeOf.cls = RX0 ∧ yX0_eyeOf.cls ≠ "java/lang/invoke/MethodHandle" ∧ yX0_eyeOf.cls ≠ "java/lang/invoke/VarHandle" ∧ (parseMethodDescriptor yX0_eyeOf.desc).map (fun d => d.parameters.length) = some 1 := by decide +kernel
theorem in_X0_eyeOf_X0 : ∀ w ∈ u_ws RX0 TX0 7, w ∈ wsX0_eyeOf := fun w h => List.mem_cons_of_mem _ (List.mem_append_left _ (List.mem_append_right _ (h)))
theorem gf_X0_eyeOf_36 : GF wsX0_eyeOf RX0 36 0 6 := ⟨RX0, TX0, 7, rfl, in_X0_eyeOf_X0, by decide, List.mem_of_getElem? (i := 1) rfl⟩
set_option maxRecDepth 100000 in
set_option maxHeartbeats 4000000 in
theorem k_X0_eyeOf {g : XC} (C : XOk g cX0_eyeOf RX0 wsX0_eyeOf rm_X0_eyeOf 3) (a_this : Nat) (a_this_basis : Nat) (a_this_numbers : Nat) (a_this_keys : Nat) (a_this_twos : Nat) (a_this_basis_gaps : Nat) (c_this_followed : Int) (c_this_there : Int) (c_this_held : Int) (c_this_basis_size : Int) (c_this_keys : Nat → Int64) (p1 : Int) (K : Int → Prop) (hK : ∀ (r : Int), K r → (narrow .int (.int (jz r)) = .int (jz r) → FinI g 0 0 (w_X0_eyeOf (xG g) a_this a_this_basis a_this_numbers a_this_keys a_this_twos a_this_basis_gaps c_this_followed c_this_there c_this_held c_this_basis_size c_this_keys) (jz r))) (h : wp (f_X0_eyeOf p1 c_this_held c_this_basis_size c_this_keys) K) : WW g 0 0 (w_X0_eyeOf (xG g) a_this a_this_basis a_this_numbers a_this_keys a_this_twos a_this_basis_gaps c_this_followed c_this_there c_this_held c_this_basis_size c_this_keys) 0 [(0, .ref a_this), (1, .int (jz p1))] [] := by
  unfold f_X0_eyeOf at h
  refine r_iconst C (pc := 0) dX0_eyeOf_0 ?_
  refine r_istore_n C (pc := 1) dX0_eyeOf_1 rfl (by decide) (L' := [(0, .ref a_this), (1, .int (jz p1)), (2, .int (jz 0))]) rfl ?_
  refine lq1_e (fun (v2_2 : Int) => WW g 0 0 (w_X0_eyeOf (xG g) a_this a_this_basis a_this_numbers a_this_keys a_this_twos a_this_basis_gaps c_this_followed c_this_there c_this_held c_this_basis_size c_this_keys) 2 [(0, .ref a_this), (1, .int (jz p1)), (2, .int (jz v2_2))] []) h (fun n2 hn2 v2_2 h => ?_)
  refine r_iload_n C (pc := 2) dX0_eyeOf_2 rfl 2 rfl ?_
  refine r_aload_n C (pc := 3) dX0_eyeOf_3 rfl 0 rfl ?_
  refine r_get C (pc := 4) dX0_eyeOf_4 gf_X0_eyeOf_36 0 rfl rfl ?_
  refine r_icmp_ge C (pc := 7) 27 dX0_eyeOf_7 rfl h (fun c7 h => ?_) (fun c7 h => ?_)
  · refine r_iconst C (pc := 27) dX0_eyeOf_27 ?_
    exact r_iret C (pc := 28) dX0_eyeOf_28 (hK (-1) (wp_s h) rfl)
  · refine r_aload_n C (pc := 10) dX0_eyeOf_10 rfl 0 rfl ?_
    refine r_iload_n C (pc := 11) dX0_eyeOf_11 rfl 2 rfl ?_
    refine r_iload_n C (pc := 12) dX0_eyeOf_12 rfl 1 rfl ?_
    obtain ⟨r13, e13, h⟩ := wp_b1 h
    refine b_cVi C (pc := 13) dX0_eyeOf_13 (c_X0_number (xl g) (xG g) a_this a_this_basis a_this_numbers a_this_keys a_this_twos a_this_basis_gaps c_this_followed c_this_there c_this_held c_this_basis_size c_this_keys v2_2 p1 r13 e13) rfl gX0_eyeOf_X0_number ⟨rfl, rfl⟩ 2 hd_X0_number ⟨Nat.le_of_ble_eq_true rfl, Nat.le_of_ble_eq_true rfl⟩ rfl 0 rfl rfl rfl [0, 1, 2] rfl (srt_nd 0 rfl) (ws' := w_X0_eyeOf (xG g) a_this a_this_basis a_this_numbers a_this_keys a_this_twos a_this_basis_gaps c_this_followed c_this_there c_this_held c_this_basis_size c_this_keys) (Put.m rfl rfl rfl) rfl (rest := []) rfl (Nat.le_of_ble_eq_true rfl) ⟨Nat.zero_le _, Nat.zero_le _⟩ ?_
    refine r_if_ne C (pc := 16) 21 dX0_eyeOf_16 rfl h (fun c16 h => ?_) (fun c16 h => ?_)
    · refine r_iinc C (pc := 21) dX0_eyeOf_21 2 rfl (by decide) (L' := [(0, .ref a_this), (1, .int (jz p1)), (2, .int (jz (v2_2 + 1)))]) rfl ?_
      refine r_goto C (pc := 24) 2 dX0_eyeOf_24 rfl ?_
      exact hn2 (v2_2 + 1) h
    · refine r_iload_n C (pc := 19) dX0_eyeOf_19 rfl 2 rfl ?_
      exact r_iret C (pc := 20) dX0_eyeOf_20 (hK v2_2 (wp_s h) rfl)
theorem c_X0_eyeOf (l : Launch) (G : gG) (a_this : Nat) (a_this_basis : Nat) (a_this_numbers : Nat) (a_this_keys : Nat) (a_this_twos : Nat) (a_this_basis_gaps : Nat) (c_this_followed : Int) (c_this_there : Int) (c_this_held : Int) (c_this_basis_size : Int) (c_this_keys : Nat → Int64) (p1 : Int) (r : Int) (hf : f_X0_eyeOf p1 c_this_held c_this_basis_size c_this_keys = some r) : CTi l yX0_eyeOf wsX0_eyeOf rm_X0_eyeOf G (w_X0_eyeOf G a_this a_this_basis a_this_numbers a_this_keys a_this_twos a_this_basis_gaps c_this_followed c_this_there c_this_held c_this_basis_size c_this_keys) [.ref a_this, .int (jz p1)] (jz r) (w_X0_eyeOf G a_this a_this_basis a_this_numbers a_this_keys a_this_twos a_this_basis_gaps c_this_followed c_this_there c_this_held c_this_basis_size c_this_keys) := CTi_of (by decide) rfl rfl (Nat.le_of_ble_eq_true rfl) (fun g C hG hl hF => by
    subst hG
    subst hl
    exact k_X0_eyeOf C a_this a_this_basis a_this_numbers a_this_keys a_this_twos a_this_basis_gaps c_this_followed c_this_there c_this_held c_this_basis_size c_this_keys p1 (fun x => x = r) (fun r' e => by cases e; exact hF) ⟨_, hf, rfl⟩)
