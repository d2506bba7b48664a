-- TightHulls$Splits.insert(II)V
def f_X3_insert (p1 : Int) (p2 : Int) (c_this_held : Int) (c_this_bits : Nat → Int) (c_this_weights : Nat → Int) : Option (Int × (Nat → Int) × (Nat → Int)) := if ltI c_this_held 15 = true then (lq3 (fun (n15 : Int → (Nat → Int) → (Nat → Int) → Option (Int × (Nat → Int) × (Nat → Int))) (v3_15 : Int) (this_bits_15 : Nat → Int) (this_weights_15 : Nat → Int) => jn (grd (iin v3_15 15) (grd (iin v3_15 15) (lv ((c_this_held + 1)) (fun x86 => some (x86, (up this_bits_15 (ix v3_15) p1), (up this_weights_15 (ix v3_15) p2)))))) (fun (k65 : Option (Int × (Nat → Int) × (Nat → Int))) => if ltI 0 v3_15 = true then (grd (iin (v3_15 - 1) 15) (if ltI (this_weights_15 (ix (v3_15 - 1))) p2 = true then (grd (iin (v3_15 - 1) 15) (lv ((this_bits_15 (ix (v3_15 - 1)))) (fun x44 => grd (iin v3_15 15) (grd (iin (v3_15 - 1) 15) (lv ((this_weights_15 (ix (v3_15 - 1)))) (fun x58 => grd (iin v3_15 15) (n15 (v3_15 + (-1)) (up this_bits_15 (ix v3_15) x44) (up this_weights_15 (ix v3_15) x58)))))))) else k65)) else k65)) 300 c_this_held c_this_bits c_this_weights) else (some (c_this_held, c_this_bits, c_this_weights))
abbrev rm_X3_insert : Room := { frames := 0, cells := 0, slots := 0, locals := 0 }
abbrev w_X3_insert (G : gG) (a_this : Nat) (a_this_basis : Nat) (a_this_bits : Nat) (a_this_weights : Nat) (c_this_followed : Int) (c_this_held : Int) (c_this_bits : Nat → Int) (c_this_weights : Nat → Int) : va_W := [(a_this, .inr (3, [.ref a_this_basis, .int (jz c_this_followed), .ref a_this_bits, .ref a_this_weights, .int (jz c_this_held)])), (a_this_bits, aI G 15 c_this_bits), (a_this_weights, aI G 15 c_this_weights)]
theorem hd_X3_insert : yX3_insert.cls = RX3 ∧ yX3_insert.cls ≠ "java/lang/invoke/MethodHandle" ∧ yX3_insert.cls ≠ "java/lang/invoke/VarHandle" ∧ (parseMethodDescriptor yX3_insert.desc).map (fun d => d.parameters.length) = some 2 := by decide +kernel
theorem in_X3_insert_X3 : ∀ w ∈ u_ws RX3 TX3 5, w ∈ wsX3_insert := fun w h => List.mem_cons_of_mem _ (List.mem_append_right _ (h))
theorem gf_X3_insert_27 : GF wsX3_insert RX3 27 3 4 := ⟨RX3, TX3, 5, rfl, in_X3_insert_X3, by decide, List.mem_of_getElem? (i := 1) rfl⟩
theorem gf_X3_insert_20 : GF wsX3_insert RX3 20 3 2 := ⟨RX3, TX3, 5, rfl, in_X3_insert_X3, by decide, List.mem_of_getElem? (i := 3) rfl⟩
theorem gf_X3_insert_24 : GF wsX3_insert RX3 24 3 3 := ⟨RX3, TX3, 5, rfl, in_X3_insert_X3, by decide, List.mem_of_getElem? (i := 2) rfl⟩
theorem pf_X3_insert_27 : PF wsX3_insert RX3 27 3 4 .int false := ⟨RX3, TX3, 5, tyX3, rfl, in_X3_insert_X3, tyX3_ok, nmX3, by decide, List.mem_of_getElem? (i := 1) rfl, rfl, rfl, rfl⟩
set_option maxRecDepth 100000 in
set_option maxHeartbeats 4000000 in
theorem k_X3_insert {g : XC} (C : XOk g cX3_insert RX3 wsX3_insert rm_X3_insert 4) (a_this : Nat) (a_this_basis : Nat) (a_this_bits : Nat) (a_this_weights : Nat) (c_this_followed : Int) (c_this_held : Int) (c_this_bits : Nat → Int) (c_this_weights : Nat → Int) (p1 : Int) (p2 : Int) (K : (Int × (Nat → Int) × (Nat → Int)) → Prop) (hK : ∀ (o0 : Int) (o1 : Nat → Int) (o2 : Nat → Int), K (o0, o1, o2) → FinV g 0 0 (w_X3_insert (xG g) a_this a_this_basis a_this_bits a_this_weights c_this_followed o0 o1 o2)) (h : wp (f_X3_insert p1 p2 c_this_held c_this_bits c_this_weights) K) : WW g 0 0 (w_X3_insert (xG g) a_this a_this_basis a_this_bits a_this_weights c_this_followed c_this_held c_this_bits c_this_weights) 0 [(0, .ref a_this), (1, .int (jz p1)), (2, .int (jz p2))] [] := by
  unfold f_X3_insert at h
  refine r_aload_n C (pc := 0) dX3_insert_0 rfl 0 rfl ?_
  refine r_get C (pc := 1) dX3_insert_1 gf_X3_insert_27 0 rfl rfl ?_
  refine r_bipush C (pc := 4) dX3_insert_4 rfl ?_
  refine r_icmp_lt C (pc := 6) 10 dX3_insert_6 rfl h (fun c6 h => ?_) (fun c6 h => ?_)
  · refine r_aload_n C (pc := 10) dX3_insert_10 rfl 0 rfl ?_
    refine r_get C (pc := 11) dX3_insert_11 gf_X3_insert_27 0 rfl rfl ?_
    refine r_istore_n C (pc := 14) dX3_insert_14 rfl (by decide) (L' := [(0, .ref a_this), (1, .int (jz p1)), (2, .int (jz p2)), (3, .int (jz c_this_held))]) rfl ?_
    refine lq3_e (fun (v3_15 : Int) (this_bits_15 : Nat → Int) (this_weights_15 : Nat → Int) => WW g 0 0 (w_X3_insert (xG g) a_this a_this_basis a_this_bits a_this_weights c_this_followed c_this_held this_bits_15 this_weights_15) 15 [(0, .ref a_this), (1, .int (jz p1)), (2, .int (jz p2)), (3, .int (jz v3_15))] []) h (fun n15 hn15 v3_15 this_bits_15 this_weights_15 h => ?_)
    refine r_iload_n C (pc := 15) dX3_insert_15 rfl 3 rfl ?_
    refine jn_e (fun (k65 : Option (Int × (Nat → Int) × (Nat → Int))) => wp (k65) K → WW g 0 0 (w_X3_insert (xG g) a_this a_this_basis a_this_bits a_this_weights c_this_followed c_this_held this_bits_15 this_weights_15) 65 [(0, .ref a_this), (1, .int (jz p1)), (2, .int (jz p2)), (3, .int (jz v3_15))] []) h (fun h => ?_) (fun k65 hk65 h => ?_)
    · refine r_aload_n C (pc := 65) dX3_insert_65 rfl 0 rfl ?_
      refine r_get C (pc := 66) dX3_insert_66 gf_X3_insert_20 0 rfl rfl ?_
      refine r_iload_n C (pc := 69) dX3_insert_69 rfl 3 rfl ?_
      refine r_iload_n C (pc := 70) dX3_insert_70 rfl 1 rfl ?_
      refine r_iast C (pc := 71) dX3_insert_71 h 1 rfl (ws' := w_X3_insert (xG g) a_this a_this_basis a_this_bits a_this_weights c_this_followed c_this_held (up this_bits_15 (ix v3_15) p1) this_weights_15) rfl (fun h => ?_)
      refine r_aload_n C (pc := 72) dX3_insert_72 rfl 0 rfl ?_
      refine r_get C (pc := 73) dX3_insert_73 gf_X3_insert_24 0 rfl rfl ?_
      refine r_iload_n C (pc := 76) dX3_insert_76 rfl 3 rfl ?_
      refine r_iload_n C (pc := 77) dX3_insert_77 rfl 2 rfl ?_
      refine r_iast C (pc := 78) dX3_insert_78 h 2 rfl (ws' := w_X3_insert (xG g) a_this a_this_basis a_this_bits a_this_weights c_this_followed c_this_held (up this_bits_15 (ix v3_15) p1) (up this_weights_15 (ix v3_15) p2)) rfl (fun h => ?_)
      refine r_aload_n C (pc := 79) dX3_insert_79 rfl 0 rfl ?_
      refine r_dup C (pc := 80) dX3_insert_80 rfl ?_
      refine r_get C (pc := 81) dX3_insert_81 gf_X3_insert_27 0 rfl rfl ?_
      refine r_iconst C (pc := 84) dX3_insert_84 ?_
      refine r_iadd C (pc := 85) dX3_insert_85 ?_
      refine r_let h (fun x86 h => ?_)
      refine r_puti C (pc := 86) dX3_insert_86 pf_X3_insert_27 0 rfl (Nat.le_of_ble_eq_true rfl) (ws' := w_X3_insert (xG g) a_this a_this_basis a_this_bits a_this_weights c_this_followed x86 (up this_bits_15 (ix v3_15) p1) (up this_weights_15 (ix v3_15) p2)) rfl ?_
      exact r_vret C (pc := 89) dX3_insert_89 (hK x86 (up this_bits_15 (ix v3_15) p1) (up this_weights_15 (ix v3_15) p2) (wp_s h))
    · refine r_if_le C (pc := 16) 65 dX3_insert_16 rfl h (fun c16 h => ?_) (fun c16 h => ?_)
      · exact hk65 h
      · refine r_aload_n C (pc := 19) dX3_insert_19 rfl 0 rfl ?_
        refine r_get C (pc := 20) dX3_insert_20 gf_X3_insert_24 0 rfl rfl ?_
        refine r_iload_n C (pc := 23) dX3_insert_23 rfl 3 rfl ?_
        refine r_iconst C (pc := 24) dX3_insert_24 ?_
        refine r_isub C (pc := 25) dX3_insert_25 ?_
        refine r_iald C (pc := 26) dX3_insert_26 h 2 rfl (fun h => ?_)
        refine r_iload_n C (pc := 27) dX3_insert_27 rfl 2 rfl ?_
        refine r_icmp_ge C (pc := 28) 65 dX3_insert_28 rfl h (fun c28 h => ?_) (fun c28 h => ?_)
        · exact hk65 h
        · refine r_aload_n C (pc := 31) dX3_insert_31 rfl 0 rfl ?_
          refine r_get C (pc := 32) dX3_insert_32 gf_X3_insert_20 0 rfl rfl ?_
          refine r_iload_n C (pc := 35) dX3_insert_35 rfl 3 rfl ?_
          refine r_aload_n C (pc := 36) dX3_insert_36 rfl 0 rfl ?_
          refine r_get C (pc := 37) dX3_insert_37 gf_X3_insert_20 0 rfl rfl ?_
          refine r_iload_n C (pc := 40) dX3_insert_40 rfl 3 rfl ?_
          refine r_iconst C (pc := 41) dX3_insert_41 ?_
          refine r_isub C (pc := 42) dX3_insert_42 ?_
          refine r_iald C (pc := 43) dX3_insert_43 h 1 rfl (fun h => ?_)
          refine r_let h (fun x44 h => ?_)
          refine r_iast C (pc := 44) dX3_insert_44 h 1 rfl (ws' := w_X3_insert (xG g) a_this a_this_basis a_this_bits a_this_weights c_this_followed c_this_held (up this_bits_15 (ix v3_15) x44) this_weights_15) rfl (fun h => ?_)
          refine r_aload_n C (pc := 45) dX3_insert_45 rfl 0 rfl ?_
          refine r_get C (pc := 46) dX3_insert_46 gf_X3_insert_24 0 rfl rfl ?_
          refine r_iload_n C (pc := 49) dX3_insert_49 rfl 3 rfl ?_
          refine r_aload_n C (pc := 50) dX3_insert_50 rfl 0 rfl ?_
          refine r_get C (pc := 51) dX3_insert_51 gf_X3_insert_24 0 rfl rfl ?_
          refine r_iload_n C (pc := 54) dX3_insert_54 rfl 3 rfl ?_
          refine r_iconst C (pc := 55) dX3_insert_55 ?_
          refine r_isub C (pc := 56) dX3_insert_56 ?_
          refine r_iald C (pc := 57) dX3_insert_57 h 2 rfl (fun h => ?_)
          refine r_let h (fun x58 h => ?_)
          refine r_iast C (pc := 58) dX3_insert_58 h 2 rfl (ws' := w_X3_insert (xG g) a_this a_this_basis a_this_bits a_this_weights c_this_followed c_this_held (up this_bits_15 (ix v3_15) x44) (up this_weights_15 (ix v3_15) x58)) rfl (fun h => ?_)
          refine r_iinc C (pc := 59) dX3_insert_59 3 rfl (by decide) (L' := [(0, .ref a_this), (1, .int (jz p1)), (2, .int (jz p2)), (3, .int (jz (v3_15 + (-1))))]) rfl ?_
          refine r_goto C (pc := 62) 15 dX3_insert_62 rfl ?_
          exact hn15 (v3_15 + (-1)) (up this_bits_15 (ix v3_15) x44) (up this_weights_15 (ix v3_15) x58) h
  · exact r_vret C (pc := 9) dX3_insert_9 (hK c_this_held c_this_bits c_this_weights (wp_s h))
theorem c_X3_insert (l : Launch) (G : gG) (a_this : Nat) (a_this_basis : Nat) (a_this_bits : Nat) (a_this_weights : Nat) (c_this_followed : Int) (c_this_held : Int) (c_this_bits : Nat → Int) (c_this_weights : Nat → Int) (p1 : Int) (p2 : Int) (o0 : Int) (o1 : Nat → Int) (o2 : Nat → Int) (hf : f_X3_insert p1 p2 c_this_held c_this_bits c_this_weights = some (o0, o1, o2)) : CTv l yX3_insert wsX3_insert rm_X3_insert G (w_X3_insert G a_this a_this_basis a_this_bits a_this_weights c_this_followed c_this_held c_this_bits c_this_weights) [.ref a_this, .int (jz p1), .int (jz p2)] (w_X3_insert G a_this a_this_basis a_this_bits a_this_weights c_this_followed o0 o1 o2) := CTv_of (by decide) rfl rfl (Nat.le_of_ble_eq_true rfl) (fun g C hG hl hF => by
    subst hG
    subst hl
    exact k_X3_insert C a_this a_this_basis a_this_bits a_this_weights c_this_followed c_this_held c_this_bits c_this_weights p1 p2 (fun x => x = (o0, o1, o2)) (fun o0' o1' o2' e => by cases e; exact hF) ⟨_, hf, rfl⟩)

-- TightHulls$Splits.follow(LTightHulls$Table;)V
def f_X3_follow (c_this_followed : Int) (c_this_held : Int) (c_this_basis_size : Int) (c_this_basis_gaps : Nat → Int) (c_this_bits : Nat → Int) (c_this_weights : Nat → Int) (c_p1_size : Int) (c_p1_gaps : Nat → Int) : Option (Int × Int × Int × (Nat → Int) × (Nat → Int) × (Nat → Int)) := jn (bd2 (f_X4_become c_this_basis_size c_this_basis_gaps c_p1_size c_p1_gaps) (fun this_basis_size_24 this_basis_gaps_24 => grd (isB 1) (lq4 (fun (n39 : Int → Int → (Nat → Int) → (Nat → Int) → Option (Int × Int × Int × (Nat → Int) × (Nat → Int) × (Nat → Int))) (v2_39 : Int) (this_held_39 : Int) (this_bits_39 : Nat → Int) (this_weights_39 : Nat → Int) => if ltI v2_39 (shlI 1 this_basis_size_24) = true then (bd1 (f_X4_weightOf v2_39 this_basis_size_24 this_basis_gaps_24) (fun r57 => jn (fun (this_held_71 : Int) (this_bits_71 : Nat → Int) (this_weights_71 : Nat → Int) => n39 (v2_39 + 2) this_held_71 this_bits_71 this_weights_71) (fun (k71 : Int → (Nat → Int) → (Nat → Int) → Option (Int × Int × Int × (Nat → Int) × (Nat → Int) × (Nat → Int))) => if ltI 0 r57 = true then (bd3 (f_X3_insert v2_39 r57 this_held_39 this_bits_39 this_weights_39) (fun this_held_68 this_bits_68 this_weights_68 => k71 this_held_68 this_bits_68 this_weights_68)) else (k71 this_held_39 this_bits_39 this_weights_39)))) else (some (1, this_held_39, this_basis_size_24, this_basis_gaps_24, this_bits_39, this_weights_39))) 300 2 0 c_this_bits c_this_weights))) (fun (k19 : Option (Int × Int × Int × (Nat → Int) × (Nat → Int) × (Nat → Int))) => if eqI c_this_followed 0 = true then k19 else (bd1 (f_X4_isLike c_this_basis_size c_this_basis_gaps c_p1_size c_p1_gaps) (fun r12 => if eqI r12 0 = true then k19 else (some (c_this_followed, c_this_held, c_this_basis_size, c_this_basis_gaps, c_this_bits, c_this_weights)))))
abbrev rm_X3_follow : Room := { frames := 3, cells := 0, slots := 0, locals := 112 }
abbrev w_X3_follow (G : gG) (a_this : Nat) (a_this_basis : Nat) (a_this_bits : Nat) (a_this_weights : Nat) (a_this_basis_gaps : Nat) (a_p1 : Nat) (a_p1_gaps : Nat) (c_this_followed : Int) (c_this_held : Int) (c_this_basis_size : Int) (c_this_basis_gaps : Nat → Int) (c_this_bits : Nat → Int) (c_this_weights : Nat → Int) (c_p1_size : Int) (c_p1_gaps : Nat → Int) : va_W := [(a_this, .inr (3, [.ref a_this_basis, .int (jz c_this_followed), .ref a_this_bits, .ref a_this_weights, .int (jz c_this_held)])), (a_this_basis, .inr (4, [.int (jz c_this_basis_size), .ref a_this_basis_gaps])), (a_this_basis_gaps, aI G 25 c_this_basis_gaps), (a_this_bits, aI G 15 c_this_bits), (a_this_weights, aI G 15 c_this_weights), (a_p1, .inr (4, [.int (jz c_p1_size), .ref a_p1_gaps])), (a_p1_gaps, aI G 25 c_p1_gaps)]
theorem hd_X3_follow : yX3_follow.cls = RX3 ∧ yX3_follow.cls ≠ "java/lang/invoke/MethodHandle" ∧ yX3_follow.cls ≠ "java/lang/invoke/VarHandle" ∧ (parseMethodDescriptor yX3_follow.desc).map (fun d => d.parameters.length) = some 1 := by decide +kernel
theorem in_X3_follow_X3 : ∀ w ∈ u_ws RX3 TX3 5, w ∈ wsX3_follow := fun w h => List.mem_cons_of_mem _ (List.mem_append_left _ (List.mem_append_right _ (h)))
theorem gf_X3_follow_16 : GF wsX3_follow RX3 16 3 1 := ⟨RX3, TX3, 5, rfl, in_X3_follow_X3, by decide, List.mem_of_getElem? (i := 1) rfl⟩
theorem gf_X3_follow_10 : GF wsX3_follow RX3 10 3 0 := ⟨RX3, TX3, 5, rfl, in_X3_follow_X3, by decide, List.mem_of_getElem? (i := 2) rfl⟩
theorem pf_X3_follow_16 : PF wsX3_follow RX3 16 3 1 .boolean false := ⟨RX3, TX3, 5, tyX3, rfl, in_X3_follow_X3, tyX3_ok, nmX3, by decide, List.mem_of_getElem? (i := 1) rfl, rfl, rfl, rfl⟩
theorem pf_X3_follow_27 : PF wsX3_follow RX3 27 3 4 .int false := ⟨RX3, TX3, 5, tyX3, rfl, in_X3_follow_X3, tyX3_ok, nmX3, by decide, List.mem_of_getElem? (i := 3) rfl, rfl, rfl, rfl⟩
theorem in_X3_follow_X4 : ∀ w ∈ u_ws RX4 TX4 2, w ∈ wsX3_follow := fun w h => List.mem_cons_of_mem _ (List.mem_append_right _ (h))
theorem gf_X3_follow_39 : GF wsX3_follow RX3 39 4 0 := ⟨RX4, TX4, 2, rfl, in_X3_follow_X4, by decide, List.mem_of_getElem? (i := 4) rfl⟩
set_option maxRecDepth 100000 in
set_option maxHeartbeats 4000000 in
theorem k_X3_follow {g : XC} (C : XOk g cX3_follow RX3 wsX3_follow rm_X3_follow 4) (a_this : Nat) (a_this_basis : Nat) (a_this_bits : Nat) (a_this_weights : Nat) (a_this_basis_gaps : Nat) (a_p1 : Nat) (a_p1_gaps : Nat) (c_this_followed : Int) (c_this_held : Int) (c_this_basis_size : Int) (c_this_basis_gaps : Nat → Int) (c_this_bits : Nat → Int) (c_this_weights : Nat → Int) (c_p1_size : Int) (c_p1_gaps : Nat → Int)  (K : (Int × Int × Int × (Nat → Int) × (Nat → Int) × (Nat → Int)) → Prop) (hK : ∀ (o0 : Int) (o1 : Int) (o2 : Int) (o3 : Nat → Int) (o4 : Nat → Int) (o5 : Nat → Int), K (o0, o1, o2, o3, o4, o5) → FinV g 0 0 (w_X3_follow (xG g) a_this a_this_basis a_this_bits a_this_weights a_this_basis_gaps a_p1 a_p1_gaps o0 o1 o2 o3 o4 o5 c_p1_size c_p1_gaps)) (h : wp (f_X3_follow c_this_followed c_this_held c_this_basis_size c_this_basis_gaps c_this_bits c_this_weights c_p1_size c_p1_gaps) K) : WW g 0 0 (w_X3_follow (xG g) a_this a_this_basis a_this_bits a_this_weights a_this_basis_gaps a_p1 a_p1_gaps c_this_followed c_this_held c_this_basis_size c_this_basis_gaps c_this_bits c_this_weights c_p1_size c_p1_gaps) 0 [(0, .ref a_this), (1, .ref a_p1)] [] := by
  unfold f_X3_follow at h
  refine r_aload_n C (pc := 0) dX3_follow_0 rfl 0 rfl ?_
  refine r_get C (pc := 1) dX3_follow_1 gf_X3_follow_16 0 rfl rfl ?_
  refine jn_e (fun (k19 : Option (Int × Int × Int × (Nat → Int) × (Nat → Int) × (Nat → Int))) => wp (k19) K → WW g 0 0 (w_X3_follow (xG g) a_this a_this_basis a_this_bits a_this_weights a_this_basis_gaps a_p1 a_p1_gaps c_this_followed c_this_held c_this_basis_size c_this_basis_gaps c_this_bits c_this_weights c_p1_size c_p1_gaps) 19 [(0, .ref a_this), (1, .ref a_p1)] []) h (fun h => ?_) (fun k19 hk19 h => ?_)
  · refine r_aload_n C (pc := 19) dX3_follow_19 rfl 0 rfl ?_
    refine r_get C (pc := 20) dX3_follow_20 gf_X3_follow_10 0 rfl rfl ?_
    refine r_aload_n C (pc := 23) dX3_follow_23 rfl 1 rfl ?_
    obtain ⟨this_basis_size_24, this_basis_gaps_24, e24, h⟩ := wp_b2 h
    refine b_cVv C (pc := 24) dX3_follow_24 (c_X4_become (xl g) (xG g) a_this_basis a_this_basis_gaps a_p1 a_p1_gaps c_this_basis_size c_this_basis_gaps c_p1_size c_p1_gaps this_basis_size_24 this_basis_gaps_24 e24) rfl gX3_follow_X4_become ⟨rfl, rfl⟩ 1 hd_X4_become ⟨Nat.le_of_ble_eq_true rfl, Nat.le_of_ble_eq_true rfl⟩ rfl 1 rfl rfl rfl [1, 2, 5, 6] rfl (srt_nd 0 rfl) (ws' := w_X3_follow (xG g) a_this a_this_basis a_this_bits a_this_weights a_this_basis_gaps a_p1 a_p1_gaps c_this_followed c_this_held this_basis_size_24 this_basis_gaps_24 c_this_bits c_this_weights c_p1_size c_p1_gaps) (Put.m rfl rfl rfl) rfl (rest := []) rfl (Nat.le_of_ble_eq_true rfl) ⟨Nat.zero_le _, Nat.zero_le _⟩ ?_
    refine r_aload_n C (pc := 27) dX3_follow_27 rfl 0 rfl ?_
    refine r_iconst C (pc := 28) dX3_follow_28 ?_
    refine r_putz C (pc := 29) dX3_follow_29 pf_X3_follow_16 h 0 rfl (Nat.le_of_ble_eq_true rfl) (ws' := w_X3_follow (xG g) a_this a_this_basis a_this_bits a_this_weights a_this_basis_gaps a_p1 a_p1_gaps 1 c_this_held this_basis_size_24 this_basis_gaps_24 c_this_bits c_this_weights c_p1_size c_p1_gaps) rfl (fun h => ?_)
    refine r_aload_n C (pc := 32) dX3_follow_32 rfl 0 rfl ?_
    refine r_iconst C (pc := 33) dX3_follow_33 ?_
    refine r_puti C (pc := 34) dX3_follow_34 pf_X3_follow_27 0 rfl (Nat.le_of_ble_eq_true rfl) (ws' := w_X3_follow (xG g) a_this a_this_basis a_this_bits a_this_weights a_this_basis_gaps a_p1 a_p1_gaps 1 0 this_basis_size_24 this_basis_gaps_24 c_this_bits c_this_weights c_p1_size c_p1_gaps) rfl ?_
    refine r_iconst C (pc := 37) dX3_follow_37 ?_
    refine r_istore_n C (pc := 38) dX3_follow_38 rfl (by decide) (L' := [(0, .ref a_this), (1, .ref a_p1), (2, .int (jz 2))]) rfl ?_
    refine r_sub [0, 2] rfl ?_
    refine lq4_e (fun (v2_39 : Int) (this_held_39 : Int) (this_bits_39 : Nat → Int) (this_weights_39 : Nat → Int) => WW g 0 0 (w_X3_follow (xG g) a_this a_this_basis a_this_bits a_this_weights a_this_basis_gaps a_p1 a_p1_gaps 1 this_held_39 this_basis_size_24 this_basis_gaps_24 this_bits_39 this_weights_39 c_p1_size c_p1_gaps) 39 [(0, .ref a_this), (2, .int (jz v2_39))] []) h (fun n39 hn39 v2_39 this_held_39 this_bits_39 this_weights_39 h => ?_)
    refine r_iload_n C (pc := 39) dX3_follow_39 rfl 1 rfl ?_
    refine r_iconst C (pc := 40) dX3_follow_40 ?_
    refine r_aload_n C (pc := 41) dX3_follow_41 rfl 0 rfl ?_
    refine r_get C (pc := 42) dX3_follow_42 gf_X3_follow_10 0 rfl rfl ?_
    refine r_get C (pc := 45) dX3_follow_45 gf_X3_follow_39 1 rfl rfl ?_
    refine r_ishl C (pc := 48) dX3_follow_48 ?_
    refine r_icmp_ge C (pc := 49) 77 dX3_follow_49 rfl h (fun c49 h => ?_) (fun c49 h => ?_)
    · exact r_vret C (pc := 77) dX3_follow_77 (hK 1 this_held_39 this_basis_size_24 this_basis_gaps_24 this_bits_39 this_weights_39 (wp_s h))
    · refine r_aload_n C (pc := 52) dX3_follow_52 rfl 0 rfl ?_
      refine r_get C (pc := 53) dX3_follow_53 gf_X3_follow_10 0 rfl rfl ?_
      refine r_iload_n C (pc := 56) dX3_follow_56 rfl 1 rfl ?_
      obtain ⟨r57, e57, h⟩ := wp_b1 h
      refine b_cVi C (pc := 57) dX3_follow_57 (c_X4_weightOf (xl g) (xG g) a_this_basis a_this_basis_gaps this_basis_size_24 this_basis_gaps_24 v2_39 r57 e57) rfl gX3_follow_X4_weightOf ⟨rfl, rfl⟩ 1 hd_X4_weightOf ⟨Nat.le_of_ble_eq_true rfl, Nat.le_of_ble_eq_true rfl⟩ rfl 1 rfl rfl rfl [1, 2] rfl (srt_nd 0 rfl) (ws' := w_X3_follow (xG g) a_this a_this_basis a_this_bits a_this_weights a_this_basis_gaps a_p1 a_p1_gaps 1 this_held_39 this_basis_size_24 this_basis_gaps_24 this_bits_39 this_weights_39 c_p1_size c_p1_gaps) (Put.m rfl rfl rfl) rfl (rest := []) rfl (Nat.le_of_ble_eq_true rfl) ⟨Nat.zero_le _, Nat.zero_le _⟩ ?_
      refine r_istore_n C (pc := 60) dX3_follow_60 rfl (by decide) (L' := [(0, .ref a_this), (2, .int (jz v2_39)), (3, .int (jz r57))]) rfl ?_
      refine r_iload_n C (pc := 61) dX3_follow_61 rfl 2 rfl ?_
      refine jn_e (fun (k71 : Int → (Nat → Int) → (Nat → Int) → Option (Int × Int × Int × (Nat → Int) × (Nat → Int) × (Nat → Int))) => ∀ (this_held_71 : Int) (this_bits_71 : Nat → Int) (this_weights_71 : Nat → Int), wp (k71 this_held_71 this_bits_71 this_weights_71) K → WW g 0 0 (w_X3_follow (xG g) a_this a_this_basis a_this_bits a_this_weights a_this_basis_gaps a_p1 a_p1_gaps 1 this_held_71 this_basis_size_24 this_basis_gaps_24 this_bits_71 this_weights_71 c_p1_size c_p1_gaps) 71 [(0, .ref a_this), (2, .int (jz v2_39))] []) h (fun this_held_71 this_bits_71 this_weights_71 h => ?_) (fun k71 hk71 h => ?_)
      · refine r_iinc C (pc := 71) dX3_follow_71 1 rfl (by decide) (L' := [(0, .ref a_this), (2, .int (jz (v2_39 + 2)))]) rfl ?_
        refine r_goto C (pc := 74) 39 dX3_follow_74 rfl ?_
        exact hn39 (v2_39 + 2) this_held_71 this_bits_71 this_weights_71 h
      · refine r_if_le C (pc := 62) 71 dX3_follow_62 rfl h (fun c62 h => ?_) (fun c62 h => ?_)
        · refine r_sub [0, 1] rfl ?_
          exact hk71 this_held_39 this_bits_39 this_weights_39 h
        · refine r_aload_n C (pc := 65) dX3_follow_65 rfl 0 rfl ?_
          refine r_iload_n C (pc := 66) dX3_follow_66 rfl 1 rfl ?_
          refine r_iload_n C (pc := 67) dX3_follow_67 rfl 2 rfl ?_
          obtain ⟨this_held_68, this_bits_68, this_weights_68, e68, h⟩ := wp_b3 h
          refine b_cVv C (pc := 68) dX3_follow_68 (c_X3_insert (xl g) (xG g) a_this a_this_basis a_this_bits a_this_weights 1 this_held_39 this_bits_39 this_weights_39 v2_39 r57 this_held_68 this_bits_68 this_weights_68 e68) rfl gX3_follow_X3_insert ⟨rfl, rfl⟩ 2 hd_X3_insert ⟨Nat.le_of_ble_eq_true rfl, Nat.le_of_ble_eq_true rfl⟩ rfl 0 rfl rfl rfl [0, 3, 4] rfl (srt_nd 0 rfl) (ws' := w_X3_follow (xG g) a_this a_this_basis a_this_bits a_this_weights a_this_basis_gaps a_p1 a_p1_gaps 1 this_held_68 this_basis_size_24 this_basis_gaps_24 this_bits_68 this_weights_68 c_p1_size c_p1_gaps) (Put.m rfl rfl rfl) rfl (rest := []) rfl (Nat.le_of_ble_eq_true rfl) ⟨Nat.zero_le _, Nat.zero_le _⟩ ?_
          refine r_sub [0, 1] rfl ?_
          exact hk71 this_held_68 this_bits_68 this_weights_68 h
  · refine r_if_eq C (pc := 4) 19 dX3_follow_4 rfl h (fun c4 h => ?_) (fun c4 h => ?_)
    · exact hk19 h
    · refine r_aload_n C (pc := 7) dX3_follow_7 rfl 0 rfl ?_
      refine r_get C (pc := 8) dX3_follow_8 gf_X3_follow_10 0 rfl rfl ?_
      refine r_aload_n C (pc := 11) dX3_follow_11 rfl 1 rfl ?_
      obtain ⟨r12, e12, h⟩ := wp_b1 h
      refine b_cVi C (pc := 12) dX3_follow_12 (c_X4_isLike (xl g) (xG g) a_this_basis a_this_basis_gaps a_p1 a_p1_gaps c_this_basis_size c_this_basis_gaps c_p1_size c_p1_gaps r12 e12) rfl gX3_follow_X4_isLike ⟨rfl, rfl⟩ 1 hd_X4_isLike ⟨Nat.le_of_ble_eq_true rfl, Nat.le_of_ble_eq_true rfl⟩ rfl 1 rfl rfl rfl [1, 2, 5, 6] rfl (srt_nd 0 rfl) (ws' := w_X3_follow (xG g) a_this a_this_basis a_this_bits a_this_weights a_this_basis_gaps a_p1 a_p1_gaps c_this_followed c_this_held c_this_basis_size c_this_basis_gaps c_this_bits c_this_weights c_p1_size c_p1_gaps) (Put.m rfl rfl rfl) rfl (rest := []) rfl (Nat.le_of_ble_eq_true rfl) ⟨Nat.zero_le _, Nat.zero_le _⟩ ?_
      refine r_if_eq C (pc := 15) 19 dX3_follow_15 rfl h (fun c15 h => ?_) (fun c15 h => ?_)
      · exact hk19 h
      · exact r_vret C (pc := 18) dX3_follow_18 (hK c_this_followed c_this_held c_this_basis_size c_this_basis_gaps c_this_bits c_this_weights (wp_s h))
theorem c_X3_follow (l : Launch) (G : gG) (a_this : Nat) (a_this_basis : Nat) (a_this_bits : Nat) (a_this_weights : Nat) (a_this_basis_gaps : Nat) (a_p1 : Nat) (a_p1_gaps : Nat) (c_this_followed : Int) (c_this_held : Int) (c_this_basis_size : Int) (c_this_basis_gaps : Nat → Int) (c_this_bits : Nat → Int) (c_this_weights : Nat → Int) (c_p1_size : Int) (c_p1_gaps : Nat → Int) (o0 : Int) (o1 : Int) (o2 : Int) (o3 : Nat → Int) (o4 : Nat → Int) (o5 : Nat → Int) (hf : f_X3_follow c_this_followed c_this_held c_this_basis_size c_this_basis_gaps c_this_bits c_this_weights c_p1_size c_p1_gaps = some (o0, o1, o2, o3, o4, o5)) : CTv l yX3_follow wsX3_follow rm_X3_follow G (w_X3_follow G a_this a_this_basis a_this_bits a_this_weights a_this_basis_gaps a_p1 a_p1_gaps c_this_followed c_this_held c_this_basis_size c_this_basis_gaps c_this_bits c_this_weights c_p1_size c_p1_gaps) [.ref a_this, .ref a_p1] (w_X3_follow G a_this a_this_basis a_this_bits a_this_weights a_this_basis_gaps a_p1 a_p1_gaps o0 o1 o2 o3 o4 o5 c_p1_size c_p1_gaps) := CTv_of (by decide) rfl rfl (Nat.le_of_ble_eq_true rfl) (fun g C hG hl hF => by
    subst hG
    subst hl
    exact k_X3_follow C a_this a_this_basis a_this_bits a_this_weights a_this_basis_gaps a_p1 a_p1_gaps c_this_followed c_this_held c_this_basis_size c_this_basis_gaps c_this_bits c_this_weights c_p1_size c_p1_gaps (fun x => x = (o0, o1, o2, o3, o4, o5)) (fun o0' o1' o2' o3' o4' o5' e => by cases e; exact hF) ⟨_, hf, rfl⟩)

-- TightHulls$Splits.parts(III)Z
def f_X3_parts (p1 : Int) (p2 : Int) (p3 : Int) (c_this_bits : Nat → Int) : Option Int := grd (iin p1 15) (grd (iin p1 15) (jn (fun (s0_28 : Int) => grd (isB s0_28) (some s0_28)) (fun (k28 : Int → Option Int) => if eqI (andI (shrI (c_this_bits (ix p1)) p2) 1) (andI (shrI (c_this_bits (ix p1)) p3) 1) = true then (k28 0) else (k28 1))))
abbrev rm_X3_parts : Room := { frames := 0, cells := 0, slots := 0, locals := 0 }
abbrev w_X3_parts (G : gG) (a_this : Nat) (a_this_basis : Nat) (a_this_bits : Nat) (a_this_weights : Nat) (c_this_followed : Int) (c_this_held : Int) (c_this_bits : Nat → Int) : va_W := [(a_this, .inr (3, [.ref a_this_basis, .int (jz c_this_followed), .ref a_this_bits, .ref a_this_weights, .int (jz c_this_held)])), (a_this_bits, aI G 15 c_this_bits)]
theorem hd_X3_parts : yX3_parts.cls = RX3 ∧ yX3_parts.cls ≠ "java/lang/invoke/MethodHandle" ∧ yX3_parts.cls ≠ "java/lang/invoke/VarHandle" ∧ (parseMethodDescriptor yX3_parts.desc).map (fun d => d.parameters.length) = some 3 := by decide +kernel
theorem in_X3_parts_X3 : ∀ w ∈ u_ws RX3 TX3 5, w ∈ wsX3_parts := fun w h => List.mem_cons_of_mem _ (List.mem_append_right _ (h))
theorem gf_X3_parts_20 : GF wsX3_parts RX3 20 3 2 := ⟨RX3, TX3, 5, rfl, in_X3_parts_X3, by decide, List.mem_of_getElem? (i := 1) rfl⟩
set_option maxRecDepth 100000 in
set_option maxHeartbeats 4000000 in
theorem k_X3_parts {g : XC} (C : XOk g cX3_parts RX3 wsX3_parts rm_X3_parts 4) (a_this : Nat) (a_this_basis : Nat) (a_this_bits : Nat) (a_this_weights : Nat) (c_this_followed : Int) (c_this_held : Int) (c_this_bits : Nat → Int) (p1 : Int) (p2 : Int) (p3 : Int) (K : Int → Prop) (hK : ∀ (r : Int), K r → (narrow .boolean (.int (jz r)) = .int (jz r) → FinI g 0 0 (w_X3_parts (xG g) a_this a_this_basis a_this_bits a_this_weights c_this_followed c_this_held c_this_bits) (jz r))) (h : wp (f_X3_parts p1 p2 p3 c_this_bits) K) : WW g 0 0 (w_X3_parts (xG g) a_this a_this_basis a_this_bits a_this_weights c_this_followed c_this_held c_this_bits) 0 [(0, .ref a_this), (1, .int (jz p1)), (2, .int (jz p2)), (3, .int (jz p3))] [] := by
  unfold f_X3_parts at h
  refine r_aload_n C (pc := 0) dX3_parts_0 rfl 0 rfl ?_
  refine r_get C (pc := 1) dX3_parts_1 gf_X3_parts_20 0 rfl rfl ?_
  refine r_iload_n C (pc := 4) dX3_parts_4 rfl 1 rfl ?_
  refine r_iald C (pc := 5) dX3_parts_5 h 1 rfl (fun h => ?_)
  refine r_iload_n C (pc := 6) dX3_parts_6 rfl 2 rfl ?_
  refine r_ishr C (pc := 7) dX3_parts_7 ?_
  refine r_iconst C (pc := 8) dX3_parts_8 ?_
  refine r_iand C (pc := 9) dX3_parts_9 ?_
  refine r_aload_n C (pc := 10) dX3_parts_10 rfl 0 rfl ?_
  refine r_get C (pc := 11) dX3_parts_11 gf_X3_parts_20 0 rfl rfl ?_
  refine r_iload_n C (pc := 14) dX3_parts_14 rfl 1 rfl ?_
  refine r_iald C (pc := 15) dX3_parts_15 h 1 rfl (fun h => ?_)
  refine r_iload_n C (pc := 16) dX3_parts_16 rfl 3 rfl ?_
  refine r_ishr C (pc := 17) dX3_parts_17 ?_
  refine r_iconst C (pc := 18) dX3_parts_18 ?_
  refine r_iand C (pc := 19) dX3_parts_19 ?_
  refine jn_e (fun (k28 : Int → Option Int) => ∀ (s0_28 : Int), wp (k28 s0_28) K → WW g 0 0 (w_X3_parts (xG g) a_this a_this_basis a_this_bits a_this_weights c_this_followed c_this_held c_this_bits) 28 [] [.int (jz s0_28)]) h (fun s0_28 h => ?_) (fun k28 hk28 h => ?_)
  · exact r_iret C (pc := 28) dX3_parts_28 (hK s0_28 (wp_s (wp_g h).2) (nB (wp_g h).1).1)
  · refine r_icmp_eq C (pc := 20) 27 dX3_parts_20 rfl h (fun c20 h => ?_) (fun c20 h => ?_)
    · refine r_iconst C (pc := 27) dX3_parts_27 ?_
      refine r_sub [] rfl ?_
      exact hk28 0 h
    · refine r_iconst C (pc := 23) dX3_parts_23 ?_
      refine r_goto C (pc := 24) 28 dX3_parts_24 rfl ?_
      refine r_sub [] rfl ?_
      exact hk28 1 h
theorem c_X3_parts (l : Launch) (G : gG) (a_this : Nat) (a_this_basis : Nat) (a_this_bits : Nat) (a_this_weights : Nat) (c_this_followed : Int) (c_this_held : Int) (c_this_bits : Nat → Int) (p1 : Int) (p2 : Int) (p3 : Int) (r : Int) (hf : f_X3_parts p1 p2 p3 c_this_bits = some r) : CTi l yX3_parts wsX3_parts rm_X3_parts G (w_X3_parts G a_this a_this_basis a_this_bits a_this_weights c_this_followed c_this_held c_this_bits) [.ref a_this, .int (jz p1), .int (jz p2), .int (jz p3)] (jz r) (w_X3_parts G a_this a_this_basis a_this_bits a_this_weights c_this_followed c_this_held c_this_bits) := CTi_of (by decide) rfl rfl (Nat.le_of_ble_eq_true rfl) (fun g C hG hl hF => by
    subst hG
    subst hl
    exact k_X3_parts C a_this a_this_basis a_this_bits a_this_weights c_this_followed c_this_held c_this_bits p1 p2 p3 (fun x => x = r) (fun r' e => by cases e; exact hF) ⟨_, hf, rfl⟩)

-- TightHulls$Splits.manyBetween(II)I
def f_X3_manyBetween (p1 : Int) (p2 : Int) (c_this_held : Int) (c_this_bits : Nat → Int) : Option Int := lq2 (fun (n5 : Int → Int → Option Int) (v3_5 : Int) (v4_5 : Int) => if ltI v4_5 c_this_held = true then (bd1 (f_X3_parts v4_5 p1 p2 c_this_bits) (fun r20 => jn (fun (s1_31 : Int) => lv ((v3_5 + s1_31)) (fun x32 => n5 x32 (v4_5 + 1))) (fun (k31 : Int → Option Int) => if eqI r20 0 = true then (k31 0) else (k31 1)))) else (some v3_5)) 300 0 0
abbrev rm_X3_manyBetween : Room := { frames := 1, cells := 0, slots := 0, locals := 23 }
abbrev w_X3_manyBetween (G : gG) (a_this : Nat) (a_this_basis : Nat) (a_this_bits : Nat) (a_this_weights : Nat) (c_this_followed : Int) (c_this_held : Int) (c_this_bits : Nat → Int) : va_W := [(a_this, .inr (3, [.ref a_this_basis, .int (jz c_this_followed), .ref a_this_bits, .ref a_this_weights, .int (jz c_this_held)])), (a_this_bits, aI G 15 c_this_bits)]
theorem hd_X3_manyBetween : yX3_manyBetween.cls = RX3 ∧ yX3_manyBetween.cls ≠ "java/lang/invoke/MethodHandle" ∧ yX3_manyBetween.cls ≠ "java/lang/invoke/VarHandle" ∧ (parseMethodDescriptor yX3_manyBetween.desc).map (fun d => d.parameters.length) = some 2 := by decide +kernel
theorem in_X3_manyBetween_X3 : ∀ w ∈ u_ws RX3 TX3 5, w ∈ wsX3_manyBetween := fun w h => List.mem_cons_of_mem _ (List.mem_append_right _ (h))
theorem gf_X3_manyBetween_27 : GF wsX3_manyBetween RX3 27 3 4 := ⟨RX3, TX3, 5, rfl, in_X3_manyBetween_X3, by decide, List.mem_of_getElem? (i := 1) rfl⟩
set_option maxRecDepth 100000 in
set_option maxHeartbeats 4000000 in
theorem k_X3_manyBetween {g : XC} (C : XOk g cX3_manyBetween RX3 wsX3_manyBetween rm_X3_manyBetween 5) (a_this : Nat) (a_this_basis : Nat) (a_this_bits : Nat) (a_this_weights : Nat) (c_this_followed : Int) (c_this_held : Int) (c_this_bits : Nat → Int) (p1 : Int) (p2 : Int) (K : Int → Prop) (hK : ∀ (r : Int), K r → (narrow .int (.int (jz r)) = .int (jz r) → FinI g 0 0 (w_X3_manyBetween (xG g) a_this a_this_basis a_this_bits a_this_weights c_this_followed c_this_held c_this_bits) (jz r))) (h : wp (f_X3_manyBetween p1 p2 c_this_held c_this_bits) K) : WW g 0 0 (w_X3_manyBetween (xG g) a_this a_this_basis a_this_bits a_this_weights c_this_followed c_this_held c_this_bits) 0 [(0, .ref a_this), (1, .int (jz p1)), (2, .int (jz p2))] [] := by
  unfold f_X3_manyBetween at h
  refine r_iconst C (pc := 0) dX3_manyBetween_0 ?_
  refine r_istore_n C (pc := 1) dX3_manyBetween_1 rfl (by decide) (L' := [(0, .ref a_this), (1, .int (jz p1)), (2, .int (jz p2)), (3, .int (jz 0))]) rfl ?_
  refine r_iconst C (pc := 2) dX3_manyBetween_2 ?_
  refine r_istore C (pc := 3) dX3_manyBetween_3 (by decide) (L' := [(0, .ref a_this), (1, .int (jz p1)), (2, .int (jz p2)), (3, .int (jz 0)), (4, .int (jz 0))]) rfl ?_
  refine lq2_e (fun (v3_5 : Int) (v4_5 : Int) => WW g 0 0 (w_X3_manyBetween (xG g) a_this a_this_basis a_this_bits a_this_weights c_this_followed c_this_held c_this_bits) 5 [(0, .ref a_this), (1, .int (jz p1)), (2, .int (jz p2)), (3, .int (jz v3_5)), (4, .int (jz v4_5))] []) h (fun n5 hn5 v3_5 v4_5 h => ?_)
  refine r_iload C (pc := 5) dX3_manyBetween_5 4 rfl ?_
  refine r_aload_n C (pc := 7) dX3_manyBetween_7 rfl 0 rfl ?_
  refine r_get C (pc := 8) dX3_manyBetween_8 gf_X3_manyBetween_27 0 rfl rfl ?_
  refine r_icmp_ge C (pc := 11) 39 dX3_manyBetween_11 rfl h (fun c11 h => ?_) (fun c11 h => ?_)
  · refine r_iload_n C (pc := 39) dX3_manyBetween_39 rfl 3 rfl ?_
    exact r_iret C (pc := 40) dX3_manyBetween_40 (hK v3_5 (wp_s h) rfl)
  · refine r_iload_n C (pc := 14) dX3_manyBetween_14 rfl 3 rfl ?_
    refine r_aload_n C (pc := 15) dX3_manyBetween_15 rfl 0 rfl ?_
    refine r_iload C (pc := 16) dX3_manyBetween_16 4 rfl ?_
    refine r_iload_n C (pc := 18) dX3_manyBetween_18 rfl 1 rfl ?_
    refine r_iload_n C (pc := 19) dX3_manyBetween_19 rfl 2 rfl ?_
    obtain ⟨r20, e20, h⟩ := wp_b1 h
    refine b_cVi C (pc := 20) dX3_manyBetween_20 (c_X3_parts (xl g) (xG g) a_this a_this_basis a_this_bits a_this_weights c_this_followed c_this_held c_this_bits v4_5 p1 p2 r20 e20) rfl gX3_manyBetween_X3_parts ⟨rfl, rfl⟩ 3 hd_X3_parts ⟨Nat.le_of_ble_eq_true rfl, Nat.le_of_ble_eq_true rfl⟩ rfl 0 rfl rfl rfl [0, 1] rfl (srt_nd 0 rfl) (ws' := w_X3_manyBetween (xG g) a_this a_this_basis a_this_bits a_this_weights c_this_followed c_this_held c_this_bits) (Put.m rfl rfl rfl) rfl (rest := [.int (jz v3_5)]) rfl (Nat.le_of_ble_eq_true rfl) ⟨Nat.zero_le _, Nat.zero_le _⟩ ?_
    refine jn_e (fun (k31 : Int → Option Int) => ∀ (s1_31 : Int), wp (k31 s1_31) K → WW g 0 0 (w_X3_manyBetween (xG g) a_this a_this_basis a_this_bits a_this_weights c_this_followed c_this_held c_this_bits) 31 [(0, .ref a_this), (1, .int (jz p1)), (2, .int (jz p2)), (4, .int (jz v4_5))] [.int (jz s1_31), .int (jz v3_5)]) h (fun s1_31 h => ?_) (fun k31 hk31 h => ?_)
    · refine r_iadd C (pc := 31) dX3_manyBetween_31 ?_
      refine r_let h (fun x32 h => ?_)
      refine r_istore_n C (pc := 32) dX3_manyBetween_32 rfl (by decide) (L' := [(0, .ref a_this), (1, .int (jz p1)), (2, .int (jz p2)), (3, .int (jz x32)), (4, .int (jz v4_5))]) rfl ?_
      refine r_iinc C (pc := 33) dX3_manyBetween_33 4 rfl (by decide) (L' := [(0, .ref a_this), (1, .int (jz p1)), (2, .int (jz p2)), (3, .int (jz x32)), (4, .int (jz (v4_5 + 1)))]) rfl ?_
      refine r_goto C (pc := 36) 5 dX3_manyBetween_36 rfl ?_
      exact hn5 x32 (v4_5 + 1) h
    · refine r_if_eq C (pc := 23) 30 dX3_manyBetween_23 rfl h (fun c23 h => ?_) (fun c23 h => ?_)
      · refine r_iconst C (pc := 30) dX3_manyBetween_30 ?_
        refine r_sub [0, 1, 2, 4] rfl ?_
        exact hk31 0 h
      · refine r_iconst C (pc := 26) dX3_manyBetween_26 ?_
        refine r_goto C (pc := 27) 31 dX3_manyBetween_27 rfl ?_
        refine r_sub [0, 1, 2, 4] rfl ?_
        exact hk31 1 h
theorem c_X3_manyBetween (l : Launch) (G : gG) (a_this : Nat) (a_this_basis : Nat) (a_this_bits : Nat) (a_this_weights : Nat) (c_this_followed : Int) (c_this_held : Int) (c_this_bits : Nat → Int) (p1 : Int) (p2 : Int) (r : Int) (hf : f_X3_manyBetween p1 p2 c_this_held c_this_bits = some r) : CTi l yX3_manyBetween wsX3_manyBetween rm_X3_manyBetween G (w_X3_manyBetween G a_this a_this_basis a_this_bits a_this_weights c_this_followed c_this_held c_this_bits) [.ref a_this, .int (jz p1), .int (jz p2)] (jz r) (w_X3_manyBetween G a_this a_this_basis a_this_bits a_this_weights c_this_followed c_this_held c_this_bits) := CTi_of (by decide) rfl rfl (Nat.le_of_ble_eq_true rfl) (fun g C hG hl hF => by
    subst hG
    subst hl
    exact k_X3_manyBetween C a_this a_this_basis a_this_bits a_this_weights c_this_followed c_this_held c_this_bits p1 p2 (fun x => x = r) (fun r' e => by cases e; exact hF) ⟨_, hf, rfl⟩)

-- TightHulls$Splits.weightBetween(II)I
def f_X3_weightBetween (p1 : Int) (p2 : Int) (c_this_held : Int) (c_this_bits : Nat → Int) (c_this_weights : Nat → Int) : Option Int := lq2 (fun (n5 : Int → Int → Option Int) (v3_5 : Int) (v4_5 : Int) => if ltI v4_5 c_this_held = true then (bd1 (f_X3_parts v4_5 p1 p2 c_this_bits) (fun r20 => jn (fun (s1_37 : Int) => lv ((v3_5 + s1_37)) (fun x38 => n5 x38 (v4_5 + 1))) (fun (k37 : Int → Option Int) => if eqI r20 0 = true then (k37 0) else (grd (iin v4_5 15) (k37 (c_this_weights (ix v4_5))))))) else (some v3_5)) 300 0 0
abbrev rm_X3_weightBetween : Room := { frames := 1, cells := 0, slots := 0, locals := 23 }
abbrev w_X3_weightBetween (G : gG) (a_this : Nat) (a_this_basis : Nat) (a_this_bits : Nat) (a_this_weights : Nat) (c_this_followed : Int) (c_this_held : Int) (c_this_bits : Nat → Int) (c_this_weights : Nat → Int) : va_W := [(a_this, .inr (3, [.ref a_this_basis, .int (jz c_this_followed), .ref a_this_bits, .ref a_this_weights, .int (jz c_this_held)])), (a_this_bits, aI G 15 c_this_bits), (a_this_weights, aI G 15 c_this_weights)]
theorem hd_X3_weightBetween : yX3_weightBetween.cls = RX3 ∧ yX3_weightBetween.cls ≠ "java/lang/invoke/MethodHandle" ∧ yX3_weightBetween.cls ≠ "java/lang/invoke/VarHandle" ∧ (parseMethodDescriptor yX3_weightBetween.desc).map (fun d => d.parameters.length) = some 2 := by decide +kernel
theorem in_X3_weightBetween_X3 : ∀ w ∈ u_ws RX3 TX3 5, w ∈ wsX3_weightBetween := fun w h => List.mem_cons_of_mem _ (List.mem_append_right _ (h))
theorem gf_X3_weightBetween_27 : GF wsX3_weightBetween RX3 27 3 4 := ⟨RX3, TX3, 5, rfl, in_X3_weightBetween_X3, by decide, List.mem_of_getElem? (i := 1) rfl⟩
theorem gf_X3_weightBetween_24 : GF wsX3_weightBetween RX3 24 3 3 := ⟨RX3, TX3, 5, rfl, in_X3_weightBetween_X3, by decide, List.mem_of_getElem? (i := 2) rfl⟩
set_option maxRecDepth 100000 in
set_option maxHeartbeats 4000000 in
theorem k_X3_weightBetween {g : XC} (C : XOk g cX3_weightBetween RX3 wsX3_weightBetween rm_X3_weightBetween 5) (a_this : Nat) (a_this_basis : Nat) (a_this_bits : Nat) (a_this_weights : Nat) (c_this_followed : Int) (c_this_held : Int) (c_this_bits : Nat → Int) (c_this_weights : Nat → Int) (p1 : Int) (p2 : Int) (K : Int → Prop) (hK : ∀ (r : Int), K r → (narrow .int (.int (jz r)) = .int (jz r) → FinI g 0 0 (w_X3_weightBetween (xG g) a_this a_this_basis a_this_bits a_this_weights c_this_followed c_this_held c_this_bits c_this_weights) (jz r))) (h : wp (f_X3_weightBetween p1 p2 c_this_held c_this_bits c_this_weights) K) : WW g 0 0 (w_X3_weightBetween (xG g) a_this a_this_basis a_this_bits a_this_weights c_this_followed c_this_held c_this_bits c_this_weights) 0 [(0, .ref a_this), (1, .int (jz p1)), (2, .int (jz p2))] [] := by
  unfold f_X3_weightBetween at h
  refine r_iconst C (pc := 0) dX3_weightBetween_0 ?_
  refine r_istore_n C (pc := 1) dX3_weightBetween_1 rfl (by decide) (L' := [(0, .ref a_this), (1, .int (jz p1)), (2, .int (jz p2)), (3, .int (jz 0))]) rfl ?_
  refine r_iconst C (pc := 2) dX3_weightBetween_2 ?_
  refine r_istore C (pc := 3) dX3_weightBetween_3 (by decide) (L' := [(0, .ref a_this), (1, .int (jz p1)), (2, .int (jz p2)), (3, .int (jz 0)), (4, .int (jz 0))]) rfl ?_
  refine lq2_e (fun (v3_5 : Int) (v4_5 : Int) => WW g 0 0 (w_X3_weightBetween (xG g) a_this a_this_basis a_this_bits a_this_weights c_this_followed c_this_held c_this_bits c_this_weights) 5 [(0, .ref a_this), (1, .int (jz p1)), (2, .int (jz p2)), (3, .int (jz v3_5)), (4, .int (jz v4_5))] []) h (fun n5 hn5 v3_5 v4_5 h => ?_)
  refine r_iload C (pc := 5) dX3_weightBetween_5 4 rfl ?_
  refine r_aload_n C (pc := 7) dX3_weightBetween_7 rfl 0 rfl ?_
  refine r_get C (pc := 8) dX3_weightBetween_8 gf_X3_weightBetween_27 0 rfl rfl ?_
  refine r_icmp_ge C (pc := 11) 45 dX3_weightBetween_11 rfl h (fun c11 h => ?_) (fun c11 h => ?_)
  · refine r_iload_n C (pc := 45) dX3_weightBetween_45 rfl 3 rfl ?_
    exact r_iret C (pc := 46) dX3_weightBetween_46 (hK v3_5 (wp_s h) rfl)
  · refine r_iload_n C (pc := 14) dX3_weightBetween_14 rfl 3 rfl ?_
    refine r_aload_n C (pc := 15) dX3_weightBetween_15 rfl 0 rfl ?_
    refine r_iload C (pc := 16) dX3_weightBetween_16 4 rfl ?_
    refine r_iload_n C (pc := 18) dX3_weightBetween_18 rfl 1 rfl ?_
    refine r_iload_n C (pc := 19) dX3_weightBetween_19 rfl 2 rfl ?_
    obtain ⟨r20, e20, h⟩ := wp_b1 h
    refine b_cVi C (pc := 20) dX3_weightBetween_20 (c_X3_parts (xl g) (xG g) a_this a_this_basis a_this_bits a_this_weights c_this_followed c_this_held c_this_bits v4_5 p1 p2 r20 e20) rfl gX3_weightBetween_X3_parts ⟨rfl, rfl⟩ 3 hd_X3_parts ⟨Nat.le_of_ble_eq_true rfl, Nat.le_of_ble_eq_true rfl⟩ rfl 0 rfl rfl rfl [0, 1] rfl (srt_nd 0 rfl) (ws' := w_X3_weightBetween (xG g) a_this a_this_basis a_this_bits a_this_weights c_this_followed c_this_held c_this_bits c_this_weights) (Put.m rfl rfl rfl) rfl (rest := [.int (jz v3_5)]) rfl (Nat.le_of_ble_eq_true rfl) ⟨Nat.zero_le _, Nat.zero_le _⟩ ?_
    refine jn_e (fun (k37 : Int → Option Int) => ∀ (s1_37 : Int), wp (k37 s1_37) K → WW g 0 0 (w_X3_weightBetween (xG g) a_this a_this_basis a_this_bits a_this_weights c_this_followed c_this_held c_this_bits c_this_weights) 37 [(0, .ref a_this), (1, .int (jz p1)), (2, .int (jz p2)), (4, .int (jz v4_5))] [.int (jz s1_37), .int (jz v3_5)]) h (fun s1_37 h => ?_) (fun k37 hk37 h => ?_)
    · refine r_iadd C (pc := 37) dX3_weightBetween_37 ?_
      refine r_let h (fun x38 h => ?_)
      refine r_istore_n C (pc := 38) dX3_weightBetween_38 rfl (by decide) (L' := [(0, .ref a_this), (1, .int (jz p1)), (2, .int (jz p2)), (3, .int (jz x38)), (4, .int (jz v4_5))]) rfl ?_
      refine r_iinc C (pc := 39) dX3_weightBetween_39 4 rfl (by decide) (L' := [(0, .ref a_this), (1, .int (jz p1)), (2, .int (jz p2)), (3, .int (jz x38)), (4, .int (jz (v4_5 + 1)))]) rfl ?_
      refine r_goto C (pc := 42) 5 dX3_weightBetween_42 rfl ?_
      exact hn5 x38 (v4_5 + 1) h
    · refine r_if_eq C (pc := 23) 36 dX3_weightBetween_23 rfl h (fun c23 h => ?_) (fun c23 h => ?_)
      · refine r_iconst C (pc := 36) dX3_weightBetween_36 ?_
        refine r_sub [0, 1, 2, 4] rfl ?_
        exact hk37 0 h
      · refine r_aload_n C (pc := 26) dX3_weightBetween_26 rfl 0 rfl ?_
        refine r_get C (pc := 27) dX3_weightBetween_27 gf_X3_weightBetween_24 0 rfl rfl ?_
        refine r_iload C (pc := 30) dX3_weightBetween_30 4 rfl ?_
        refine r_iald C (pc := 32) dX3_weightBetween_32 h 2 rfl (fun h => ?_)
        refine r_goto C (pc := 33) 37 dX3_weightBetween_33 rfl ?_
        refine r_sub [0, 1, 2, 4] rfl ?_
        exact hk37 (c_this_weights (ix v4_5)) h
theorem c_X3_weightBetween (l : Launch) (G : gG) (a_this : Nat) (a_this_basis : Nat) (a_this_bits : Nat) (a_this_weights : Nat) (c_this_followed : Int) (c_this_held : Int) (c_this_bits : Nat → Int) (c_this_weights : Nat → Int) (p1 : Int) (p2 : Int) (r : Int) (hf : f_X3_weightBetween p1 p2 c_this_held c_this_bits c_this_weights = some r) : CTi l yX3_weightBetween wsX3_weightBetween rm_X3_weightBetween G (w_X3_weightBetween G a_this a_this_basis a_this_bits a_this_weights c_this_followed c_this_held c_this_bits c_this_weights) [.ref a_this, .int (jz p1), .int (jz p2)] (jz r) (w_X3_weightBetween G a_this a_this_basis a_this_bits a_this_weights c_this_followed c_this_held c_this_bits c_this_weights) := CTi_of (by decide) rfl rfl (Nat.le_of_ble_eq_true rfl) (fun g C hG hl hF => by
    subst hG
    subst hl
    exact k_X3_weightBetween C a_this a_this_basis a_this_bits a_this_weights c_this_followed c_this_held c_this_bits c_this_weights p1 p2 (fun x => x = r) (fun r' e => by cases e; exact hF) ⟨_, hf, rfl⟩)
