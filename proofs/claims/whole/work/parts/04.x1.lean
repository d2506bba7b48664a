-- TightHulls$Rows.empty()V
def f_X1_empty (c_this_held : Int) : Option Int := some 0
abbrev rm_X1_empty : Room := { frames := 0, cells := 0, slots := 0, locals := 0 }
abbrev w_X1_empty (G : gG) (a_this : Nat) (a_this_cells : Nat) (c_this_most : Int) (c_this_held : Int) : va_W := [(a_this, .inr (1, [.int (jz c_this_most), .ref a_this_cells, .int (jz c_this_held)]))]
theorem hd_X1_empty : yX1_empty.cls = RX1 ∧ yX1_empty.cls ≠ "java/lang/invoke/MethodHandle" ∧ yX1_empty.cls ≠ "java/lang/invoke/VarHandle" ∧ (parseMethodDescriptor yX1_empty.desc).map (fun d => d.parameters.length) = some 0 := by decide +kernel
theorem in_X1_empty_X1 : ∀ w ∈ u_ws RX1 TX1 3, w ∈ wsX1_empty := fun w h => List.mem_cons_of_mem _ (List.mem_append_right _ (h))
theorem pf_X1_empty_23 : PF wsX1_empty RX1 23 1 2 .int false := ⟨RX1, TX1, 3, tyX1, rfl, in_X1_empty_X1, tyX1_ok, nmX1, by decide, List.mem_of_getElem? (i := 1) rfl, rfl, rfl, rfl⟩
set_option maxRecDepth 100000 in
set_option maxHeartbeats 4000000 in
theorem k_X1_empty {g : XC} (C : XOk g cX1_empty RX1 wsX1_empty rm_X1_empty 1) (a_this : Nat) (a_this_cells : Nat) (c_this_most : Int) (c_this_held : Int)  (K : Int → Prop) (hK : ∀ (o0 : Int), K o0 → FinV g 0 0 (w_X1_empty (xG g) a_this a_this_cells c_this_most o0)) (h : wp (f_X1_empty c_this_held) K) : WW g 0 0 (w_X1_empty (xG g) a_this a_this_cells c_this_most c_this_held) 0 [(0, .ref a_this)] [] := by
  unfold f_X1_empty at h
  refine r_aload_n C (pc := 0) dX1_empty_0 rfl 0 rfl ?_
  refine r_iconst C (pc := 1) dX1_empty_1 ?_
  refine r_puti C (pc := 2) dX1_empty_2 pf_X1_empty_23 0 rfl (Nat.le_of_ble_eq_true rfl) (ws' := w_X1_empty (xG g) a_this a_this_cells c_this_most 0) rfl ?_
  exact r_vret C (pc := 5) dX1_empty_5 (hK 0 (wp_s h))
theorem c_X1_empty (l : Launch) (G : gG) (a_this : Nat) (a_this_cells : Nat) (c_this_most : Int) (c_this_held : Int) (o0 : Int) (hf : f_X1_empty c_this_held = some o0) : CTv l yX1_empty wsX1_empty rm_X1_empty G (w_X1_empty G a_this a_this_cells c_this_most c_this_held) [.ref a_this] (w_X1_empty G a_this a_this_cells c_this_most o0) := CTv_of (by decide) rfl rfl (Nat.le_of_ble_eq_true rfl) (fun g C hG hl hF => by
    subst hG
    subst hl
    exact k_X1_empty C a_this a_this_cells c_this_most c_this_held (fun x => x = o0) (fun o0' e => by cases e; exact hF) ⟨_, hf, rfl⟩)

-- TightHulls$Rows.add(III)Z
def f_X1_add (p1 : Int) (p2 : Int) (p3 : Int) (n_this_cells : Nat) (c_this_most : Int) (c_this_held : Int) (c_this_cells : Nat → Int) : Option (Int × Int × (Nat → Int)) := if ltI c_this_held c_this_most = true then (grd (iin (3 * c_this_held) n_this_cells) (grd (iin ((3 * c_this_held) + 1) n_this_cells) (grd (iin ((3 * c_this_held) + 2) n_this_cells) (lv ((c_this_held + 1)) (fun x60 => some (1, x60, (up (up (up c_this_cells (ix (3 * c_this_held)) p1) (ix ((3 * c_this_held) + 1)) p2) (ix ((3 * c_this_held) + 2)) p3))))))) else (some (0, c_this_held, c_this_cells))
abbrev rm_X1_add : Room := { frames := 0, cells := 0, slots := 0, locals := 0 }
abbrev w_X1_add (G : gG) (a_this : Nat) (a_this_cells : Nat) (n_this_cells : Nat) (c_this_most : Int) (c_this_held : Int) (c_this_cells : Nat → Int) : va_W := [(a_this, .inr (1, [.int (jz c_this_most), .ref a_this_cells, .int (jz c_this_held)])), (a_this_cells, aI G n_this_cells c_this_cells)]
theorem hd_X1_add : yX1_add.cls = RX1 ∧ yX1_add.cls ≠ "java/lang/invoke/MethodHandle" ∧ yX1_add.cls ≠ "java/lang/invoke/VarHandle" ∧ (parseMethodDescriptor yX1_add.desc).map (fun d => d.parameters.length) = some 3 := by decide +kernel
theorem in_X1_add_X1 : ∀ w ∈ u_ws RX1 TX1 3, w ∈ wsX1_add := fun w h => List.mem_cons_of_mem _ (List.mem_append_right _ (h))
theorem gf_X1_add_23 : GF wsX1_add RX1 23 1 2 := ⟨RX1, TX1, 3, rfl, in_X1_add_X1, by decide, List.mem_of_getElem? (i := 1) rfl⟩
theorem gf_X1_add_13 : GF wsX1_add RX1 13 1 0 := ⟨RX1, TX1, 3, rfl, in_X1_add_X1, by decide, List.mem_of_getElem? (i := 2) rfl⟩
theorem gf_X1_add_19 : GF wsX1_add RX1 19 1 1 := ⟨RX1, TX1, 3, rfl, in_X1_add_X1, by decide, List.mem_of_getElem? (i := 3) rfl⟩
theorem pf_X1_add_23 : PF wsX1_add RX1 23 1 2 .int false := ⟨RX1, TX1, 3, tyX1, rfl, in_X1_add_X1, tyX1_ok, nmX1, by decide, List.mem_of_getElem? (i := 1) rfl, rfl, rfl, rfl⟩
set_option maxRecDepth 100000 in
set_option maxHeartbeats 4000000 in
theorem k_X1_add {g : XC} (C : XOk g cX1_add RX1 wsX1_add rm_X1_add 4) (a_this : Nat) (a_this_cells : Nat) (n_this_cells : Nat) (c_this_most : Int) (c_this_held : Int) (c_this_cells : Nat → Int) (p1 : Int) (p2 : Int) (p3 : Int) (K : (Int × Int × (Nat → Int)) → Prop) (hK : ∀ (r : Int) (o0 : Int) (o1 : Nat → Int), K (r, o0, o1) → (narrow .boolean (.int (jz r)) = .int (jz r) → FinI g 0 0 (w_X1_add (xG g) a_this a_this_cells n_this_cells c_this_most o0 o1) (jz r))) (h : wp (f_X1_add p1 p2 p3 n_this_cells c_this_most c_this_held c_this_cells) K) : WW g 0 0 (w_X1_add (xG g) a_this a_this_cells n_this_cells c_this_most c_this_held c_this_cells) 0 [(0, .ref a_this), (1, .int (jz p1)), (2, .int (jz p2)), (3, .int (jz p3))] [] := by
  unfold f_X1_add at h
  refine r_aload_n C (pc := 0) dX1_add_0 rfl 0 rfl ?_
  refine r_get C (pc := 1) dX1_add_1 gf_X1_add_23 0 rfl rfl ?_
  refine r_aload_n C (pc := 4) dX1_add_4 rfl 0 rfl ?_
  refine r_get C (pc := 5) dX1_add_5 gf_X1_add_13 0 rfl rfl ?_
  refine r_icmp_lt C (pc := 8) 13 dX1_add_8 rfl h (fun c8 h => ?_) (fun c8 h => ?_)
  · refine r_aload_n C (pc := 13) dX1_add_13 rfl 0 rfl ?_
    refine r_get C (pc := 14) dX1_add_14 gf_X1_add_19 0 rfl rfl ?_
    refine r_iconst C (pc := 17) dX1_add_17 ?_
    refine r_aload_n C (pc := 18) dX1_add_18 rfl 0 rfl ?_
    refine r_get C (pc := 19) dX1_add_19 gf_X1_add_23 0 rfl rfl ?_
    refine r_imul C (pc := 22) dX1_add_22 ?_
    refine r_iload_n C (pc := 23) dX1_add_23 rfl 1 rfl ?_
    refine r_iast C (pc := 24) dX1_add_24 h 1 rfl (ws' := w_X1_add (xG g) a_this a_this_cells n_this_cells c_this_most c_this_held (up c_this_cells (ix (3 * c_this_held)) p1)) rfl (fun h => ?_)
    refine r_aload_n C (pc := 25) dX1_add_25 rfl 0 rfl ?_
    refine r_get C (pc := 26) dX1_add_26 gf_X1_add_19 0 rfl rfl ?_
    refine r_iconst C (pc := 29) dX1_add_29 ?_
    refine r_aload_n C (pc := 30) dX1_add_30 rfl 0 rfl ?_
    refine r_get C (pc := 31) dX1_add_31 gf_X1_add_23 0 rfl rfl ?_
    refine r_imul C (pc := 34) dX1_add_34 ?_
    refine r_iconst C (pc := 35) dX1_add_35 ?_
    refine r_iadd C (pc := 36) dX1_add_36 ?_
    refine r_iload_n C (pc := 37) dX1_add_37 rfl 2 rfl ?_
    refine r_iast C (pc := 38) dX1_add_38 h 1 rfl (ws' := w_X1_add (xG g) a_this a_this_cells n_this_cells c_this_most c_this_held (up (up c_this_cells (ix (3 * c_this_held)) p1) (ix ((3 * c_this_held) + 1)) p2)) rfl (fun h => ?_)
    refine r_aload_n C (pc := 39) dX1_add_39 rfl 0 rfl ?_
    refine r_get C (pc := 40) dX1_add_40 gf_X1_add_19 0 rfl rfl ?_
    refine r_iconst C (pc := 43) dX1_add_43 ?_
    refine r_aload_n C (pc := 44) dX1_add_44 rfl 0 rfl ?_
    refine r_get C (pc := 45) dX1_add_45 gf_X1_add_23 0 rfl rfl ?_
    refine r_imul C (pc := 48) dX1_add_48 ?_
    refine r_iconst C (pc := 49) dX1_add_49 ?_
    refine r_iadd C (pc := 50) dX1_add_50 ?_
    refine r_iload_n C (pc := 51) dX1_add_51 rfl 3 rfl ?_
    refine r_iast C (pc := 52) dX1_add_52 h 1 rfl (ws' := w_X1_add (xG g) a_this a_this_cells n_this_cells c_this_most c_this_held (up (up (up c_this_cells (ix (3 * c_this_held)) p1) (ix ((3 * c_this_held) + 1)) p2) (ix ((3 * c_this_held) + 2)) p3)) rfl (fun h => ?_)
    refine r_aload_n C (pc := 53) dX1_add_53 rfl 0 rfl ?_
    refine r_dup C (pc := 54) dX1_add_54 rfl ?_
    refine r_get C (pc := 55) dX1_add_55 gf_X1_add_23 0 rfl rfl ?_
    refine r_iconst C (pc := 58) dX1_add_58 ?_
    refine r_iadd C (pc := 59) dX1_add_59 ?_
    refine r_let h (fun x60 h => ?_)
    refine r_puti C (pc := 60) dX1_add_60 pf_X1_add_23 0 rfl (Nat.le_of_ble_eq_true rfl) (ws' := w_X1_add (xG g) a_this a_this_cells n_this_cells c_this_most x60 (up (up (up c_this_cells (ix (3 * c_this_held)) p1) (ix ((3 * c_this_held) + 1)) p2) (ix ((3 * c_this_held) + 2)) p3)) rfl ?_
    refine r_iconst C (pc := 63) dX1_add_63 ?_
    exact r_iret C (pc := 64) dX1_add_64 (hK 1 x60 (up (up (up c_this_cells (ix (3 * c_this_held)) p1) (ix ((3 * c_this_held) + 1)) p2) (ix ((3 * c_this_held) + 2)) p3) (wp_s h) (nB rfl).1)
  · refine r_iconst C (pc := 11) dX1_add_11 ?_
    exact r_iret C (pc := 12) dX1_add_12 (hK 0 c_this_held c_this_cells (wp_s h) (nB rfl).1)
theorem c_X1_add (l : Launch) (G : gG) (a_this : Nat) (a_this_cells : Nat) (n_this_cells : Nat) (c_this_most : Int) (c_this_held : Int) (c_this_cells : Nat → Int) (p1 : Int) (p2 : Int) (p3 : Int) (r : Int) (o0 : Int) (o1 : Nat → Int) (hf : f_X1_add p1 p2 p3 n_this_cells c_this_most c_this_held c_this_cells = some (r, o0, o1)) : CTi l yX1_add wsX1_add rm_X1_add G (w_X1_add G a_this a_this_cells n_this_cells c_this_most c_this_held c_this_cells) [.ref a_this, .int (jz p1), .int (jz p2), .int (jz p3)] (jz r) (w_X1_add G a_this a_this_cells n_this_cells c_this_most o0 o1) := CTi_of (by decide) rfl rfl (Nat.le_of_ble_eq_true rfl) (fun g C hG hl hF => by
    subst hG
    subst hl
    exact k_X1_add C a_this a_this_cells n_this_cells c_this_most c_this_held c_this_cells p1 p2 p3 (fun x => x = (r, o0, o1)) (fun r' o0' o1' e => by cases e; exact hF) ⟨_, hf, rfl⟩)

-- TightHulls$Rows.cell(II)I
def f_X1_cell (p1 : Int) (p2 : Int) (n_this_cells : Nat) (c_this_held : Int) (c_this_cells : Nat → Int) : Option Int := jn (fun (s0_26 : Int) => jn (fun (s0_45 : Int) => some s0_45) (fun (k45 : Int → Option Int) => if eqI s0_26 0 = true then (k45 0) else (grd (iin ((3 * p1) + p2) n_this_cells) (k45 (c_this_cells (ix ((3 * p1) + p2))))))) (fun (k26 : Int → Option Int) => jn (k26 0) (fun (k25 : Option Int) => if ltI p1 0 = true then k25 else (if ltI p1 c_this_held = true then (if ltI p2 0 = true then k25 else (if ltI p2 3 = true then (k26 1) else k25)) else k25)))
abbrev rm_X1_cell : Room := { frames := 0, cells := 0, slots := 0, locals := 0 }
abbrev w_X1_cell (G : gG) (a_this : Nat) (a_this_cells : Nat) (n_this_cells : Nat) (c_this_most : Int) (c_this_held : Int) (c_this_cells : Nat → Int) : va_W := [(a_this, .inr (1, [.int (jz c_this_most), .ref a_this_cells, .int (jz c_this_held)])), (a_this_cells, aI G n_this_cells c_this_cells)]
theorem hd_X1_cell : yX1_cell.cls = RX1 ∧ yX1_cell.cls ≠ "java/lang/invoke/MethodHandle" ∧ yX1_cell.cls ≠ "java/lang/invoke/VarHandle" ∧ (parseMethodDescriptor yX1_cell.desc).map (fun d => d.parameters.length) = some 2 := by decide +kernel
theorem in_X1_cell_X1 : ∀ w ∈ u_ws RX1 TX1 3, w ∈ wsX1_cell := fun w h => List.mem_cons_of_mem _ (List.mem_append_right _ (h))
theorem gf_X1_cell_19 : GF wsX1_cell RX1 19 1 1 := ⟨RX1, TX1, 3, rfl, in_X1_cell_X1, by decide, List.mem_of_getElem? (i := 2) rfl⟩
theorem gf_X1_cell_23 : GF wsX1_cell RX1 23 1 2 := ⟨RX1, TX1, 3, rfl, in_X1_cell_X1, by decide, List.mem_of_getElem? (i := 1) rfl⟩
set_option maxRecDepth 100000 in
set_option maxHeartbeats 4000000 in
theorem k_X1_cell {g : XC} (C : XOk g cX1_cell RX1 wsX1_cell rm_X1_cell 4) (a_this : Nat) (a_this_cells : Nat) (n_this_cells : Nat) (c_this_most : Int) (c_this_held : Int) (c_this_cells : Nat → Int) (p1 : Int) (p2 : Int) (K : Int → Prop) (hK : ∀ (r : Int), K r → (narrow .int (.int (jz r)) = .int (jz r) → FinI g 0 0 (w_X1_cell (xG g) a_this a_this_cells n_this_cells c_this_most c_this_held c_this_cells) (jz r))) (h : wp (f_X1_cell p1 p2 n_this_cells c_this_held c_this_cells) K) : WW g 0 0 (w_X1_cell (xG g) a_this a_this_cells n_this_cells c_this_most c_this_held c_this_cells) 0 [(0, .ref a_this), (1, .int (jz p1)), (2, .int (jz p2))] [] := by
  unfold f_X1_cell at h
  refine r_iload_n C (pc := 0) dX1_cell_0 rfl 1 rfl ?_
  refine jn_e (fun (k26 : Int → Option Int) => ∀ (s0_26 : Int), wp (k26 s0_26) K → WW g 0 0 (w_X1_cell (xG g) a_this a_this_cells n_this_cells c_this_most c_this_held c_this_cells) 26 [(0, .ref a_this), (1, .int (jz p1)), (2, .int (jz p2))] [.int (jz s0_26)]) h (fun s0_26 h => ?_) (fun k26 hk26 h => ?_)
  · refine r_istore_n C (pc := 26) dX1_cell_26 rfl (by decide) (L' := [(0, .ref a_this), (1, .int (jz p1)), (2, .int (jz p2)), (3, .int (jz s0_26))]) rfl ?_
    refine r_iload_n C (pc := 27) dX1_cell_27 rfl 3 rfl ?_
    refine jn_e (fun (k45 : Int → Option Int) => ∀ (s0_45 : Int), wp (k45 s0_45) K → WW g 0 0 (w_X1_cell (xG g) a_this a_this_cells n_this_cells c_this_most c_this_held c_this_cells) 45 [] [.int (jz s0_45)]) h (fun s0_45 h => ?_) (fun k45 hk45 h => ?_)
    · exact r_iret C (pc := 45) dX1_cell_45 (hK s0_45 (wp_s h) rfl)
    · refine r_if_eq C (pc := 28) 44 dX1_cell_28 rfl h (fun c28 h => ?_) (fun c28 h => ?_)
      · refine r_iconst C (pc := 44) dX1_cell_44 ?_
        refine r_sub [] rfl ?_
        exact hk45 0 h
      · refine r_aload_n C (pc := 31) dX1_cell_31 rfl 0 rfl ?_
        refine r_get C (pc := 32) dX1_cell_32 gf_X1_cell_19 0 rfl rfl ?_
        refine r_iconst C (pc := 35) dX1_cell_35 ?_
        refine r_iload_n C (pc := 36) dX1_cell_36 rfl 1 rfl ?_
        refine r_imul C (pc := 37) dX1_cell_37 ?_
        refine r_iload_n C (pc := 38) dX1_cell_38 rfl 2 rfl ?_
        refine r_iadd C (pc := 39) dX1_cell_39 ?_
        refine r_iald C (pc := 40) dX1_cell_40 h 1 rfl (fun h => ?_)
        refine r_goto C (pc := 41) 45 dX1_cell_41 rfl ?_
        refine r_sub [] rfl ?_
        exact hk45 (c_this_cells (ix ((3 * p1) + p2))) h
  · refine jn_e (fun (k25 : Option Int) => wp (k25) K → WW g 0 0 (w_X1_cell (xG g) a_this a_this_cells n_this_cells c_this_most c_this_held c_this_cells) 25 [(0, .ref a_this), (1, .int (jz p1)), (2, .int (jz p2))] []) h (fun h => ?_) (fun k25 hk25 h => ?_)
    · refine r_iconst C (pc := 25) dX1_cell_25 ?_
      exact hk26 0 h
    · refine r_if_lt C (pc := 1) 25 dX1_cell_1 rfl h (fun c1 h => ?_) (fun c1 h => ?_)
      · exact hk25 h
      · refine r_iload_n C (pc := 4) dX1_cell_4 rfl 1 rfl ?_
        refine r_aload_n C (pc := 5) dX1_cell_5 rfl 0 rfl ?_
        refine r_get C (pc := 6) dX1_cell_6 gf_X1_cell_23 0 rfl rfl ?_
        refine r_icmp_ge C (pc := 9) 25 dX1_cell_9 rfl h (fun c9 h => ?_) (fun c9 h => ?_)
        · exact hk25 h
        · refine r_iload_n C (pc := 12) dX1_cell_12 rfl 2 rfl ?_
          refine r_if_lt C (pc := 13) 25 dX1_cell_13 rfl h (fun c13 h => ?_) (fun c13 h => ?_)
          · exact hk25 h
          · refine r_iload_n C (pc := 16) dX1_cell_16 rfl 2 rfl ?_
            refine r_iconst C (pc := 17) dX1_cell_17 ?_
            refine r_icmp_ge C (pc := 18) 25 dX1_cell_18 rfl h (fun c18 h => ?_) (fun c18 h => ?_)
            · exact hk25 h
            · refine r_iconst C (pc := 21) dX1_cell_21 ?_
              refine r_goto C (pc := 22) 26 dX1_cell_22 rfl ?_
              exact hk26 1 h
theorem c_X1_cell (l : Launch) (G : gG) (a_this : Nat) (a_this_cells : Nat) (n_this_cells : Nat) (c_this_most : Int) (c_this_held : Int) (c_this_cells : Nat → Int) (p1 : Int) (p2 : Int) (r : Int) (hf : f_X1_cell p1 p2 n_this_cells c_this_held c_this_cells = some r) : CTi l yX1_cell wsX1_cell rm_X1_cell G (w_X1_cell G a_this a_this_cells n_this_cells c_this_most c_this_held c_this_cells) [.ref a_this, .int (jz p1), .int (jz p2)] (jz r) (w_X1_cell G a_this a_this_cells n_this_cells c_this_most c_this_held c_this_cells) := CTi_of (by decide) rfl rfl (Nat.le_of_ble_eq_true rfl) (fun g C hG hl hF => by
    subst hG
    subst hl
    exact k_X1_cell C a_this a_this_cells n_this_cells c_this_most c_this_held c_this_cells p1 p2 (fun x => x = r) (fun r' e => by cases e; exact hF) ⟨_, hf, rfl⟩)

-- TightHulls$Rows.become(LTightHulls$Rows;)V
def f_X1_become (n_this_cells : Nat) (n_p1_cells : Nat) (c_this_most : Int) (c_this_held : Int) (c_this_cells : Nat → Int) (c_p1_held : Int) (c_p1_cells : Nat → Int) : Option (Int × (Nat → Int)) := lq3 (fun (n7 : Int → Int → (Nat → Int) → Option (Int × (Nat → Int))) (v2_7 : Int) (this_held_7 : Int) (this_cells_7 : Nat → Int) => if ltI v2_7 c_p1_held = true then (bd1 (f_X1_cell v2_7 0 n_p1_cells c_p1_held c_p1_cells) (fun r19 => bd1 (f_X1_cell v2_7 1 n_p1_cells c_p1_held c_p1_cells) (fun r25 => bd1 (f_X1_cell v2_7 2 n_p1_cells c_p1_held c_p1_cells) (fun r31 => bd3 (f_X1_add r19 r25 r31 n_this_cells c_this_most this_held_7 this_cells_7) (fun r34 this_held_34 this_cells_34 => n7 (v2_7 + 1) this_held_34 this_cells_34))))) else (some (this_held_7, this_cells_7))) 300 0 0 c_this_cells
abbrev rm_X1_become : Room := { frames := 1, cells := 0, slots := 0, locals := 23 }
abbrev w_X1_become (G : gG) (a_this : Nat) (a_this_cells : Nat) (a_p1 : Nat) (a_p1_cells : Nat) (n_this_cells : Nat) (n_p1_cells : Nat) (c_this_most : Int) (c_this_held : Int) (c_this_cells : Nat → Int) (c_p1_most : Int) (c_p1_held : Int) (c_p1_cells : Nat → Int) : va_W := [(a_this, .inr (1, [.int (jz c_this_most), .ref a_this_cells, .int (jz c_this_held)])), (a_this_cells, aI G n_this_cells c_this_cells), (a_p1, .inr (1, [.int (jz c_p1_most), .ref a_p1_cells, .int (jz c_p1_held)])), (a_p1_cells, aI G n_p1_cells c_p1_cells)]
theorem hd_X1_become : yX1_become.cls = RX1 ∧ yX1_become.cls ≠ "java/lang/invoke/MethodHandle" ∧ yX1_become.cls ≠ "java/lang/invoke/VarHandle" ∧ (parseMethodDescriptor yX1_become.desc).map (fun d => d.parameters.length) = some 1 := by decide +kernel
theorem in_X1_become_X1 : ∀ w ∈ u_ws RX1 TX1 3, w ∈ wsX1_become := fun w h => List.mem_cons_of_mem _ (List.mem_append_right _ (h))
theorem pf_X1_become_23 : PF wsX1_become RX1 23 1 2 .int false := ⟨RX1, TX1, 3, tyX1, rfl, in_X1_become_X1, tyX1_ok, nmX1, by decide, List.mem_of_getElem? (i := 1) rfl, rfl, rfl, rfl⟩
theorem gf_X1_become_23 : GF wsX1_become RX1 23 1 2 := ⟨RX1, TX1, 3, rfl, in_X1_become_X1, by decide, List.mem_of_getElem? (i := 1) rfl⟩
set_option maxRecDepth 100000 in
set_option maxHeartbeats 4000000 in
theorem k_X1_become {g : XC} (C : XOk g cX1_become RX1 wsX1_become rm_X1_become 3) (a_this : Nat) (a_this_cells : Nat) (a_p1 : Nat) (a_p1_cells : Nat) (n_this_cells : Nat) (n_p1_cells : Nat) (c_this_most : Int) (c_this_held : Int) (c_this_cells : Nat → Int) (c_p1_most : Int) (c_p1_held : Int) (c_p1_cells : Nat → Int)  (K : (Int × (Nat → Int)) → Prop) (hK : ∀ (o0 : Int) (o1 : Nat → Int), K (o0, o1) → FinV g 0 0 (w_X1_become (xG g) a_this a_this_cells a_p1 a_p1_cells n_this_cells n_p1_cells c_this_most o0 o1 c_p1_most c_p1_held c_p1_cells)) (h : wp (f_X1_become n_this_cells n_p1_cells c_this_most c_this_held c_this_cells c_p1_held c_p1_cells) K) : WW g 0 0 (w_X1_become (xG g) a_this a_this_cells a_p1 a_p1_cells n_this_cells n_p1_cells c_this_most c_this_held c_this_cells c_p1_most c_p1_held c_p1_cells) 0 [(0, .ref a_this), (1, .ref a_p1)] [] := by
  unfold f_X1_become at h
  refine r_aload_n C (pc := 0) dX1_become_0 rfl 0 rfl ?_
  refine r_iconst C (pc := 1) dX1_become_1 ?_
  refine r_puti C (pc := 2) dX1_become_2 pf_X1_become_23 0 rfl (Nat.le_of_ble_eq_true rfl) (ws' := w_X1_become (xG g) a_this a_this_cells a_p1 a_p1_cells n_this_cells n_p1_cells c_this_most 0 c_this_cells c_p1_most c_p1_held c_p1_cells) rfl ?_
  refine r_iconst C (pc := 5) dX1_become_5 ?_
  refine r_istore_n C (pc := 6) dX1_become_6 rfl (by decide) (L' := [(0, .ref a_this), (1, .ref a_p1), (2, .int (jz 0))]) rfl ?_
  refine lq3_e (fun (v2_7 : Int) (this_held_7 : Int) (this_cells_7 : Nat → Int) => WW g 0 0 (w_X1_become (xG g) a_this a_this_cells a_p1 a_p1_cells n_this_cells n_p1_cells c_this_most this_held_7 this_cells_7 c_p1_most c_p1_held c_p1_cells) 7 [(0, .ref a_this), (1, .ref a_p1), (2, .int (jz v2_7))] []) h (fun n7 hn7 v2_7 this_held_7 this_cells_7 h => ?_)
  refine r_iload_n C (pc := 7) dX1_become_7 rfl 2 rfl ?_
  refine r_aload_n C (pc := 8) dX1_become_8 rfl 1 rfl ?_
  refine r_get C (pc := 9) dX1_become_9 gf_X1_become_23 2 rfl rfl ?_
  refine r_icmp_ge C (pc := 12) 44 dX1_become_12 rfl h (fun c12 h => ?_) (fun c12 h => ?_)
  · exact r_vret C (pc := 44) dX1_become_44 (hK this_held_7 this_cells_7 (wp_s h))
  · refine r_aload_n C (pc := 15) dX1_become_15 rfl 0 rfl ?_
    refine r_aload_n C (pc := 16) dX1_become_16 rfl 1 rfl ?_
    refine r_iload_n C (pc := 17) dX1_become_17 rfl 2 rfl ?_
    refine r_iconst C (pc := 18) dX1_become_18 ?_
    obtain ⟨r19, e19, h⟩ := wp_b1 h
    refine b_cVi C (pc := 19) dX1_become_19 (c_X1_cell (xl g) (xG g) a_p1 a_p1_cells n_p1_cells c_p1_most c_p1_held c_p1_cells v2_7 0 r19 e19) rfl gX1_become_X1_cell ⟨rfl, rfl⟩ 2 hd_X1_cell ⟨Nat.le_of_ble_eq_true rfl, Nat.le_of_ble_eq_true rfl⟩ rfl 2 rfl rfl rfl [2, 3] rfl (srt_nd 0 rfl) (ws' := w_X1_become (xG g) a_this a_this_cells a_p1 a_p1_cells n_this_cells n_p1_cells c_this_most this_held_7 this_cells_7 c_p1_most c_p1_held c_p1_cells) (Put.m rfl rfl rfl) rfl (rest := [.ref a_this]) rfl (Nat.le_of_ble_eq_true rfl) ⟨Nat.zero_le _, Nat.zero_le _⟩ ?_
    refine r_aload_n C (pc := 22) dX1_become_22 rfl 1 rfl ?_
    refine r_iload_n C (pc := 23) dX1_become_23 rfl 2 rfl ?_
    refine r_iconst C (pc := 24) dX1_become_24 ?_
    obtain ⟨r25, e25, h⟩ := wp_b1 h
    refine b_cVi C (pc := 25) dX1_become_25 (c_X1_cell (xl g) (xG g) a_p1 a_p1_cells n_p1_cells c_p1_most c_p1_held c_p1_cells v2_7 1 r25 e25) rfl gX1_become_X1_cell ⟨rfl, rfl⟩ 2 hd_X1_cell ⟨Nat.le_of_ble_eq_true rfl, Nat.le_of_ble_eq_true rfl⟩ rfl 2 rfl rfl rfl [2, 3] rfl (srt_nd 0 rfl) (ws' := w_X1_become (xG g) a_this a_this_cells a_p1 a_p1_cells n_this_cells n_p1_cells c_this_most this_held_7 this_cells_7 c_p1_most c_p1_held c_p1_cells) (Put.m rfl rfl rfl) rfl (rest := [.int (jz r19), .ref a_this]) rfl (Nat.le_of_ble_eq_true rfl) ⟨Nat.zero_le _, Nat.zero_le _⟩ ?_
    refine r_aload_n C (pc := 28) dX1_become_28 rfl 1 rfl ?_
    refine r_iload_n C (pc := 29) dX1_become_29 rfl 2 rfl ?_
    refine r_iconst C (pc := 30) dX1_become_30 ?_
    obtain ⟨r31, e31, h⟩ := wp_b1 h
    refine b_cVi C (pc := 31) dX1_become_31 (c_X1_cell (xl g) (xG g) a_p1 a_p1_cells n_p1_cells c_p1_most c_p1_held c_p1_cells v2_7 2 r31 e31) rfl gX1_become_X1_cell ⟨rfl, rfl⟩ 2 hd_X1_cell ⟨Nat.le_of_ble_eq_true rfl, Nat.le_of_ble_eq_true rfl⟩ rfl 2 rfl rfl rfl [2, 3] rfl (srt_nd 0 rfl) (ws' := w_X1_become (xG g) a_this a_this_cells a_p1 a_p1_cells n_this_cells n_p1_cells c_this_most this_held_7 this_cells_7 c_p1_most c_p1_held c_p1_cells) (Put.m rfl rfl rfl) rfl (rest := [.int (jz r25), .int (jz r19), .ref a_this]) rfl (Nat.le_of_ble_eq_true rfl) ⟨Nat.zero_le _, Nat.zero_le _⟩ ?_
    obtain ⟨r34, this_held_34, this_cells_34, e34, h⟩ := wp_b3 h
    refine b_cVi C (pc := 34) dX1_become_34 (c_X1_add (xl g) (xG g) a_this a_this_cells n_this_cells c_this_most this_held_7 this_cells_7 r19 r25 r31 r34 this_held_34 this_cells_34 e34) rfl gX1_become_X1_add ⟨rfl, rfl⟩ 3 hd_X1_add ⟨Nat.le_of_ble_eq_true rfl, Nat.le_of_ble_eq_true rfl⟩ rfl 0 rfl rfl rfl [0, 1] rfl (srt_nd 0 rfl) (ws' := w_X1_become (xG g) a_this a_this_cells a_p1 a_p1_cells n_this_cells n_p1_cells c_this_most this_held_34 this_cells_34 c_p1_most c_p1_held c_p1_cells) (Put.m rfl rfl rfl) rfl (rest := []) rfl (Nat.le_of_ble_eq_true rfl) ⟨Nat.zero_le _, Nat.zero_le _⟩ ?_
    refine r_pop C (pc := 37) dX1_become_37 rfl ?_
    refine r_iinc C (pc := 38) dX1_become_38 2 rfl (by decide) (L' := [(0, .ref a_this), (1, .ref a_p1), (2, .int (jz (v2_7 + 1)))]) rfl ?_
    refine r_goto C (pc := 41) 7 dX1_become_41 rfl ?_
    exact hn7 (v2_7 + 1) this_held_34 this_cells_34 h
theorem c_X1_become (l : Launch) (G : gG) (a_this : Nat) (a_this_cells : Nat) (a_p1 : Nat) (a_p1_cells : Nat) (n_this_cells : Nat) (n_p1_cells : Nat) (c_this_most : Int) (c_this_held : Int) (c_this_cells : Nat → Int) (c_p1_most : Int) (c_p1_held : Int) (c_p1_cells : Nat → Int) (o0 : Int) (o1 : Nat → Int) (hf : f_X1_become n_this_cells n_p1_cells c_this_most c_this_held c_this_cells c_p1_held c_p1_cells = some (o0, o1)) : CTv l yX1_become wsX1_become rm_X1_become G (w_X1_become G a_this a_this_cells a_p1 a_p1_cells n_this_cells n_p1_cells c_this_most c_this_held c_this_cells c_p1_most c_p1_held c_p1_cells) [.ref a_this, .ref a_p1] (w_X1_become G a_this a_this_cells a_p1 a_p1_cells n_this_cells n_p1_cells c_this_most o0 o1 c_p1_most c_p1_held c_p1_cells) := CTv_of (by decide) rfl rfl (Nat.le_of_ble_eq_true rfl) (fun g C hG hl hF => by
    subst hG
    subst hl
    exact k_X1_become C a_this a_this_cells a_p1 a_p1_cells n_this_cells n_p1_cells c_this_most c_this_held c_this_cells c_p1_most c_p1_held c_p1_cells (fun x => x = (o0, o1)) (fun o0' o1' e => by cases e; exact hF) ⟨_, hf, rfl⟩)
