-- TightHulls$Ties.needed(LTightHulls$Table;[III)I
def f_X7_needed (p3 : Int) (p4 : Int) (c_p1_size : Int) (c_p1_gaps : Nat → Int) (c_p2 : Nat → Int) : Option Int := lq2 (fun (n6 : Int → Int → Option Int) (v4_6 : Int) (v5_6 : Int) => if ltI v5_6 c_p1_size = true then (jn (fun (v4_52 : Int) => n6 v4_52 (v5_6 + 1)) (fun (k52 : Int → Option Int) => if eqI v5_6 p3 = true then (k52 v4_6) else (if eqI (andI (shrI p4 v5_6) 1) 1 = true then (bd1 (f_X4_gap p3 v5_6 c_p1_size c_p1_gaps) (fun r38 => grd (iin v5_6 5) (lv ((maxI v4_6 ((2 * r38) - (c_p2 (ix v5_6))))) (fun x50 => k52 x50)))) else (k52 v4_6)))) else (some v4_6)) 300 0 0
abbrev rm_X7_needed : Room := { frames := 1, cells := 0, slots := 0, locals := 60 }
abbrev w_X7_needed (G : gG) (a_p1 : Nat) (a_p1_gaps : Nat) (a_p2 : Nat) (c_p1_size : Int) (c_p1_gaps : Nat → Int) (c_p2 : Nat → Int) : va_W := [(a_p1, .inr (4, [.int (jz c_p1_size), .ref a_p1_gaps])), (a_p1_gaps, aI G 25 c_p1_gaps), (a_p2, aI G 5 c_p2)]
theorem hd_X7_needed : yX7_needed.cls ≠ "java/lang/invoke/MethodHandle" ∧ yX7_needed.cls ≠ "java/lang/invoke/VarHandle" ∧ (parseMethodDescriptor yX7_needed.desc).map (fun d => d.parameters.length) = some 4 := by decide +kernel
theorem in_X7_needed_X4 : ∀ w ∈ u_ws RX4 TX4 2, w ∈ wsX7_needed := fun w h => List.mem_cons_of_mem _ (List.mem_append_right _ (h))
theorem gf_X7_needed_22 : GF wsX7_needed RX7 22 4 0 := ⟨RX4, TX4, 2, rfl, in_X7_needed_X4, by decide, List.mem_of_getElem? (i := 1) rfl⟩
theorem mm_X7_needed_2 : Cond.methodLink RX7 47 Lib.Math.max.name ∈ wsX7_needed := List.mem_of_getElem? (i := 2) rfl
theorem mm_X7_needed_3 : Cond.static Lib.Math.max.name ∈ wsX7_needed := List.mem_of_getElem? (i := 3) rfl
theorem mm_X7_needed_4 : Cond.initialized "java/lang/Math" ∈ wsX7_needed := List.mem_of_getElem? (i := 4) rfl
theorem mm_X7_needed_5 : Cond.code Lib.Math.max.name Lib.Math.max.code 2 (some .int) ∈ wsX7_needed := List.mem_of_getElem? (i := 5) rfl
set_option maxRecDepth 100000 in
set_option maxHeartbeats 4000000 in
theorem k_X7_needed {g : XC} (C : XOk g cX7_needed RX7 wsX7_needed rm_X7_needed 6) (a_p1 : Nat) (a_p1_gaps : Nat) (a_p2 : Nat) (c_p1_size : Int) (c_p1_gaps : Nat → Int) (c_p2 : Nat → Int) (p3 : Int) (p4 : Int) (K : Int → Prop) (hK : ∀ (r : Int), K r → (narrow .int (.int (jz r)) = .int (jz r) → FinI g 0 0 (w_X7_needed (xG g) a_p1 a_p1_gaps a_p2 c_p1_size c_p1_gaps c_p2) (jz r))) (h : wp (f_X7_needed p3 p4 c_p1_size c_p1_gaps c_p2) K) : WW g 0 0 (w_X7_needed (xG g) a_p1 a_p1_gaps a_p2 c_p1_size c_p1_gaps c_p2) 0 [(0, .ref a_p1), (1, .ref a_p2), (2, .int (jz p3)), (3, .int (jz p4))] [] := by
  unfold f_X7_needed at h
  refine r_iconst C (pc := 0) dX7_needed_0 ?_
  refine r_istore C (pc := 1) dX7_needed_1 (by decide) (L' := [(0, .ref a_p1), (1, .ref a_p2), (2, .int (jz p3)), (3, .int (jz p4)), (4, .int (jz 0))]) rfl ?_
  refine r_iconst C (pc := 3) dX7_needed_3 ?_
  refine r_istore C (pc := 4) dX7_needed_4 (by decide) (L' := [(0, .ref a_p1), (1, .ref a_p2), (2, .int (jz p3)), (3, .int (jz p4)), (4, .int (jz 0)), (5, .int (jz 0))]) rfl ?_
  refine lq2_e (fun (v4_6 : Int) (v5_6 : Int) => WW g 0 0 (w_X7_needed (xG g) a_p1 a_p1_gaps a_p2 c_p1_size c_p1_gaps c_p2) 6 [(0, .ref a_p1), (1, .ref a_p2), (2, .int (jz p3)), (3, .int (jz p4)), (4, .int (jz v4_6)), (5, .int (jz v5_6))] []) h (fun n6 hn6 v4_6 v5_6 h => ?_)
  refine r_iload C (pc := 6) dX7_needed_6 5 rfl ?_
  refine r_aload_n C (pc := 8) dX7_needed_8 rfl 0 rfl ?_
  refine r_get C (pc := 9) dX7_needed_9 gf_X7_needed_22 0 rfl rfl ?_
  refine r_icmp_ge C (pc := 12) 58 dX7_needed_12 rfl h (fun c12 h => ?_) (fun c12 h => ?_)
  · refine r_iload C (pc := 58) dX7_needed_58 4 rfl ?_
    exact r_iret C (pc := 60) dX7_needed_60 (hK v4_6 (wp_s h) rfl)
  · refine r_iload C (pc := 15) dX7_needed_15 5 rfl ?_
    refine r_iload_n C (pc := 17) dX7_needed_17 rfl 2 rfl ?_
    refine jn_e (fun (k52 : Int → Option Int) => ∀ (v4_52 : Int), wp (k52 v4_52) K → WW g 0 0 (w_X7_needed (xG g) a_p1 a_p1_gaps a_p2 c_p1_size c_p1_gaps c_p2) 52 [(0, .ref a_p1), (1, .ref a_p2), (2, .int (jz p3)), (3, .int (jz p4)), (4, .int (jz v4_52)), (5, .int (jz v5_6))] []) h (fun v4_52 h => ?_) (fun k52 hk52 h => ?_)
    · refine r_iinc C (pc := 52) dX7_needed_52 5 rfl (by decide) (L' := [(0, .ref a_p1), (1, .ref a_p2), (2, .int (jz p3)), (3, .int (jz p4)), (4, .int (jz v4_52)), (5, .int (jz (v5_6 + 1)))]) rfl ?_
      refine r_goto C (pc := 55) 6 dX7_needed_55 rfl ?_
      exact hn6 v4_52 (v5_6 + 1) h
    · refine r_icmp_eq C (pc := 18) 52 dX7_needed_18 rfl h (fun c18 h => ?_) (fun c18 h => ?_)
      · exact hk52 v4_6 h
      · refine r_iload_n C (pc := 21) dX7_needed_21 rfl 3 rfl ?_
        refine r_iload C (pc := 22) dX7_needed_22 5 rfl ?_
        refine r_ishr C (pc := 24) dX7_needed_24 ?_
        refine r_iconst C (pc := 25) dX7_needed_25 ?_
        refine r_iand C (pc := 26) dX7_needed_26 ?_
        refine r_iconst C (pc := 27) dX7_needed_27 ?_
        refine r_icmp_ne C (pc := 28) 52 dX7_needed_28 rfl h (fun c28 h => ?_) (fun c28 h => ?_)
        · exact hk52 v4_6 h
        · refine r_iload C (pc := 31) dX7_needed_31 4 rfl ?_
          refine r_iconst C (pc := 33) dX7_needed_33 ?_
          refine r_aload_n C (pc := 34) dX7_needed_34 rfl 0 rfl ?_
          refine r_iload_n C (pc := 35) dX7_needed_35 rfl 2 rfl ?_
          refine r_iload C (pc := 36) dX7_needed_36 5 rfl ?_
          obtain ⟨r38, e38, h⟩ := wp_b1 h
          refine b_cVi C (pc := 38) dX7_needed_38 (c_X4_gap (xl g) (xG g) a_p1 a_p1_gaps c_p1_size c_p1_gaps p3 v5_6 r38 e38) rfl gX7_needed_X4_gap ⟨rfl, rfl⟩ 2 hd_X4_gap ⟨Nat.le_of_ble_eq_true rfl, Nat.le_of_ble_eq_true rfl⟩ rfl 0 rfl rfl rfl [0, 1] rfl (srt_nd 0 rfl) (ws' := w_X7_needed (xG g) a_p1 a_p1_gaps a_p2 c_p1_size c_p1_gaps c_p2) (Put.m rfl rfl rfl) rfl (rest := [.int (jz 2), .int (jz v4_6)]) rfl (Nat.le_of_ble_eq_true rfl) ⟨Nat.zero_le _, Nat.zero_le _⟩ ?_
          refine r_imul C (pc := 41) dX7_needed_41 ?_
          refine r_aload_n C (pc := 42) dX7_needed_42 rfl 1 rfl ?_
          refine r_iload C (pc := 43) dX7_needed_43 5 rfl ?_
          refine r_iald C (pc := 45) dX7_needed_45 h 2 rfl (fun h => ?_)
          refine r_isub C (pc := 46) dX7_needed_46 ?_
          refine r_mmax C (pc := 47) dX7_needed_47 mm_X7_needed_2 mm_X7_needed_3 mm_X7_needed_4 mm_X7_needed_5 (Nat.le_of_ble_eq_true rfl) (Nat.le_of_ble_eq_true rfl) ⟨Nat.zero_le _, Nat.zero_le _⟩ ?_
          refine r_let h (fun x50 h => ?_)
          refine r_istore C (pc := 50) dX7_needed_50 (by decide) (L' := [(0, .ref a_p1), (1, .ref a_p2), (2, .int (jz p3)), (3, .int (jz p4)), (4, .int (jz x50)), (5, .int (jz v5_6))]) rfl ?_
          exact hk52 x50 h
theorem c_X7_needed (l : Launch) (G : gG) (a_p1 : Nat) (a_p1_gaps : Nat) (a_p2 : Nat) (c_p1_size : Int) (c_p1_gaps : Nat → Int) (c_p2 : Nat → Int) (p3 : Int) (p4 : Int) (r : Int) (hf : f_X7_needed p3 p4 c_p1_size c_p1_gaps c_p2 = some r) : CTi l yX7_needed wsX7_needed rm_X7_needed G (w_X7_needed G a_p1 a_p1_gaps a_p2 c_p1_size c_p1_gaps c_p2) [.ref a_p1, .ref a_p2, .int (jz p3), .int (jz p4)] (jz r) (w_X7_needed G a_p1 a_p1_gaps a_p2 c_p1_size c_p1_gaps c_p2) := CTi_of (by decide) rfl rfl (Nat.le_of_ble_eq_true rfl) (fun g C hG hl hF => by
    subst hG
    subst hl
    exact k_X7_needed C a_p1 a_p1_gaps a_p2 c_p1_size c_p1_gaps c_p2 p3 p4 (fun x => x = r) (fun r' e => by cases e; exact hF) ⟨_, hf, rfl⟩)

-- TightHulls$Ties.keepApart(LTightHulls$Table;[I)Z
def f_X7_keepApart (c_p1_size : Int) (c_p1_gaps : Nat → Int) (c_p2 : Nat → Int) : Option Int := lq1 (fun (n2 : Int → Option Int) (v2_2 : Int) => if ltI v2_2 c_p1_size = true then (lv ((v2_2 + 1)) (fun x13 => lq1 (fun (n14 : Int → Option Int) (v3_14 : Int) => if ltI v3_14 c_p1_size = true then (grd (iin v2_2 5) (grd (iin v3_14 5) (bd1 (f_X4_gap v2_2 v3_14 c_p1_size c_p1_gaps) (fun r33 => if ltI ((c_p2 (ix v2_2)) + (c_p2 (ix v3_14))) (2 * r33) = true then (some 0) else (n14 (v3_14 + 1)))))) else (n2 (v2_2 + 1))) 300 x13)) else (some 1)) 300 0
abbrev rm_X7_keepApart : Room := { frames := 1, cells := 0, slots := 0, locals := 23 }
abbrev w_X7_keepApart (G : gG) (a_p1 : Nat) (a_p1_gaps : Nat) (a_p2 : Nat) (c_p1_size : Int) (c_p1_gaps : Nat → Int) (c_p2 : Nat → Int) : va_W := [(a_p1, .inr (4, [.int (jz c_p1_size), .ref a_p1_gaps])), (a_p1_gaps, aI G 25 c_p1_gaps), (a_p2, aI G 5 c_p2)]
theorem hd_X7_keepApart : yX7_keepApart.cls ≠ "java/lang/invoke/MethodHandle" ∧ yX7_keepApart.cls ≠ "java/lang/invoke/VarHandle" ∧ (parseMethodDescriptor yX7_keepApart.desc).map (fun d => d.parameters.length) = some 2 := by decide +kernel
theorem in_X7_keepApart_X4 : ∀ w ∈ u_ws RX4 TX4 2, w ∈ wsX7_keepApart := fun w h => List.mem_cons_of_mem _ (List.mem_append_right _ (h))
theorem gf_X7_keepApart_22 : GF wsX7_keepApart RX7 22 4 0 := ⟨RX4, TX4, 2, rfl, in_X7_keepApart_X4, by decide, List.mem_of_getElem? (i := 1) rfl⟩
set_option maxRecDepth 100000 in
set_option maxHeartbeats 4000000 in
theorem k_X7_keepApart {g : XC} (C : XOk g cX7_keepApart RX7 wsX7_keepApart rm_X7_keepApart 4) (a_p1 : Nat) (a_p1_gaps : Nat) (a_p2 : Nat) (c_p1_size : Int) (c_p1_gaps : Nat → Int) (c_p2 : Nat → Int)  (K : Int → Prop) (hK : ∀ (r : Int), K r → (narrow .boolean (.int (jz r)) = .int (jz r) → FinI g 0 0 (w_X7_keepApart (xG g) a_p1 a_p1_gaps a_p2 c_p1_size c_p1_gaps c_p2) (jz r))) (h : wp (f_X7_keepApart c_p1_size c_p1_gaps c_p2) K) : WW g 0 0 (w_X7_keepApart (xG g) a_p1 a_p1_gaps a_p2 c_p1_size c_p1_gaps c_p2) 0 [(0, .ref a_p1), (1, .ref a_p2)] [] := by
  unfold f_X7_keepApart at h
  refine r_iconst C (pc := 0) dX7_keepApart_0 ?_
  refine r_istore_n C (pc := 1) dX7_keepApart_1 rfl (by decide) (L' := [(0, .ref a_p1), (1, .ref a_p2), (2, .int (jz 0))]) rfl ?_
  refine lq1_e (fun (v2_2 : Int) => WW g 0 0 (w_X7_keepApart (xG g) a_p1 a_p1_gaps a_p2 c_p1_size c_p1_gaps c_p2) 2 [(0, .ref a_p1), (1, .ref a_p2), (2, .int (jz v2_2))] []) h (fun n2 hn2 v2_2 h => ?_)
  refine r_iload_n C (pc := 2) dX7_keepApart_2 rfl 2 rfl ?_
  refine r_aload_n C (pc := 3) dX7_keepApart_3 rfl 0 rfl ?_
  refine r_get C (pc := 4) dX7_keepApart_4 gf_X7_keepApart_22 0 rfl rfl ?_
  refine r_icmp_ge C (pc := 7) 54 dX7_keepApart_7 rfl h (fun c7 h => ?_) (fun c7 h => ?_)
  · refine r_iconst C (pc := 54) dX7_keepApart_54 ?_
    exact r_iret C (pc := 55) dX7_keepApart_55 (hK 1 (wp_s h) (nB rfl).1)
  · refine r_iload_n C (pc := 10) dX7_keepApart_10 rfl 2 rfl ?_
    refine r_iconst C (pc := 11) dX7_keepApart_11 ?_
    refine r_iadd C (pc := 12) dX7_keepApart_12 ?_
    refine r_let h (fun x13 h => ?_)
    refine r_istore_n C (pc := 13) dX7_keepApart_13 rfl (by decide) (L' := [(0, .ref a_p1), (1, .ref a_p2), (2, .int (jz v2_2)), (3, .int (jz x13))]) rfl ?_
    refine lq1_e (fun (v3_14 : Int) => WW g 0 0 (w_X7_keepApart (xG g) a_p1 a_p1_gaps a_p2 c_p1_size c_p1_gaps c_p2) 14 [(0, .ref a_p1), (1, .ref a_p2), (2, .int (jz v2_2)), (3, .int (jz v3_14))] []) h (fun n14 hn14 v3_14 h => ?_)
    refine r_iload_n C (pc := 14) dX7_keepApart_14 rfl 3 rfl ?_
    refine r_aload_n C (pc := 15) dX7_keepApart_15 rfl 0 rfl ?_
    refine r_get C (pc := 16) dX7_keepApart_16 gf_X7_keepApart_22 0 rfl rfl ?_
    refine r_icmp_ge C (pc := 19) 48 dX7_keepApart_19 rfl h (fun c19 h => ?_) (fun c19 h => ?_)
    · refine r_iinc C (pc := 48) dX7_keepApart_48 2 rfl (by decide) (L' := [(0, .ref a_p1), (1, .ref a_p2), (2, .int (jz (v2_2 + 1))), (3, .int (jz v3_14))]) rfl ?_
      refine r_goto C (pc := 51) 2 dX7_keepApart_51 rfl ?_
      refine r_sub [0, 1, 2] rfl ?_
      exact hn2 (v2_2 + 1) h
    · refine r_aload_n C (pc := 22) dX7_keepApart_22 rfl 1 rfl ?_
      refine r_iload_n C (pc := 23) dX7_keepApart_23 rfl 2 rfl ?_
      refine r_iald C (pc := 24) dX7_keepApart_24 h 2 rfl (fun h => ?_)
      refine r_aload_n C (pc := 25) dX7_keepApart_25 rfl 1 rfl ?_
      refine r_iload_n C (pc := 26) dX7_keepApart_26 rfl 3 rfl ?_
      refine r_iald C (pc := 27) dX7_keepApart_27 h 2 rfl (fun h => ?_)
      refine r_iadd C (pc := 28) dX7_keepApart_28 ?_
      refine r_iconst C (pc := 29) dX7_keepApart_29 ?_
      refine r_aload_n C (pc := 30) dX7_keepApart_30 rfl 0 rfl ?_
      refine r_iload_n C (pc := 31) dX7_keepApart_31 rfl 2 rfl ?_
      refine r_iload_n C (pc := 32) dX7_keepApart_32 rfl 3 rfl ?_
      obtain ⟨r33, e33, h⟩ := wp_b1 h
      refine b_cVi C (pc := 33) dX7_keepApart_33 (c_X4_gap (xl g) (xG g) a_p1 a_p1_gaps c_p1_size c_p1_gaps v2_2 v3_14 r33 e33) rfl gX7_keepApart_X4_gap ⟨rfl, rfl⟩ 2 hd_X4_gap ⟨Nat.le_of_ble_eq_true rfl, Nat.le_of_ble_eq_true rfl⟩ rfl 0 rfl rfl rfl [0, 1] rfl (srt_nd 0 rfl) (ws' := w_X7_keepApart (xG g) a_p1 a_p1_gaps a_p2 c_p1_size c_p1_gaps c_p2) (Put.m rfl rfl rfl) rfl (rest := [.int (jz 2), .int (jz ((c_p2 (ix v2_2)) + (c_p2 (ix v3_14))))]) rfl (Nat.le_of_ble_eq_true rfl) ⟨Nat.zero_le _, Nat.zero_le _⟩ ?_
      refine r_imul C (pc := 36) dX7_keepApart_36 ?_
      refine r_icmp_ge C (pc := 37) 42 dX7_keepApart_37 rfl h (fun c37 h => ?_) (fun c37 h => ?_)
      · refine r_iinc C (pc := 42) dX7_keepApart_42 3 rfl (by decide) (L' := [(0, .ref a_p1), (1, .ref a_p2), (2, .int (jz v2_2)), (3, .int (jz (v3_14 + 1)))]) rfl ?_
        refine r_goto C (pc := 45) 14 dX7_keepApart_45 rfl ?_
        exact hn14 (v3_14 + 1) h
      · refine r_iconst C (pc := 40) dX7_keepApart_40 ?_
        exact r_iret C (pc := 41) dX7_keepApart_41 (hK 0 (wp_s h) (nB rfl).1)
theorem c_X7_keepApart (l : Launch) (G : gG) (a_p1 : Nat) (a_p1_gaps : Nat) (a_p2 : Nat) (c_p1_size : Int) (c_p1_gaps : Nat → Int) (c_p2 : Nat → Int) (r : Int) (hf : f_X7_keepApart c_p1_size c_p1_gaps c_p2 = some r) : CTi l yX7_keepApart wsX7_keepApart rm_X7_keepApart G (w_X7_keepApart G a_p1 a_p1_gaps a_p2 c_p1_size c_p1_gaps c_p2) [.ref a_p1, .ref a_p2] (jz r) (w_X7_keepApart G a_p1 a_p1_gaps a_p2 c_p1_size c_p1_gaps c_p2) := CTi_of (by decide) rfl rfl (Nat.le_of_ble_eq_true rfl) (fun g C hG hl hF => by
    subst hG
    subst hl
    exact k_X7_keepApart C a_p1 a_p1_gaps a_p2 c_p1_size c_p1_gaps c_p2 (fun x => x = r) (fun r' e => by cases e; exact hF) ⟨_, hf, rfl⟩)

-- TightHulls$Ties.tightTwos(LTightHulls$Table;[I)I
def f_X7_tightTwos (c_p1_size : Int) (c_p1_gaps : Nat → Int) (c_p2 : Nat → Int) : Option Int := lq2 (fun (n4 : Int → Int → Option Int) (v2_4 : Int) (v3_4 : Int) => if ltI v3_4 c_p1_size = true then (lq2 (fun (n15 : Int → Int → Option Int) (v2_15 : Int) (v4_15 : Int) => if ltI v4_15 c_p1_size = true then (grd (iin v3_4 5) (grd (iin v4_15 5) (bd1 (f_X4_gap v3_4 v4_15 c_p1_size c_p1_gaps) (fun r37 => jn (fun (v2_55 : Int) => n15 v2_55 (v4_15 + 1)) (fun (k55 : Int → Option Int) => if eqI ((c_p2 (ix v3_4)) + (c_p2 (ix v4_15))) (2 * r37) = true then (lv ((orI v2_15 (shlI 1 ((5 * v3_4) + v4_15)))) (fun x54 => k55 x54)) else (k55 v2_15)))))) else (n4 v2_15 (v3_4 + 1))) 300 v2_4 0) else (some v2_4)) 300 0 0
abbrev rm_X7_tightTwos : Room := { frames := 1, cells := 0, slots := 0, locals := 23 }
abbrev w_X7_tightTwos (G : gG) (a_p1 : Nat) (a_p1_gaps : Nat) (a_p2 : Nat) (c_p1_size : Int) (c_p1_gaps : Nat → Int) (c_p2 : Nat → Int) : va_W := [(a_p1, .inr (4, [.int (jz c_p1_size), .ref a_p1_gaps])), (a_p1_gaps, aI G 25 c_p1_gaps), (a_p2, aI G 5 c_p2)]
theorem hd_X7_tightTwos : yX7_tightTwos.cls ≠ "java/lang/invoke/MethodHandle" ∧ yX7_tightTwos.cls ≠ "java/lang/invoke/VarHandle" ∧ (parseMethodDescriptor yX7_tightTwos.desc).map (fun d => d.parameters.length) = some 2 := by decide +kernel
theorem in_X7_tightTwos_X4 : ∀ w ∈ u_ws RX4 TX4 2, w ∈ wsX7_tightTwos := fun w h => List.mem_cons_of_mem _ (List.mem_append_right _ (h))
theorem gf_X7_tightTwos_22 : GF wsX7_tightTwos RX7 22 4 0 := ⟨RX4, TX4, 2, rfl, in_X7_tightTwos_X4, by decide, List.mem_of_getElem? (i := 1) rfl⟩
set_option maxRecDepth 100000 in
set_option maxHeartbeats 4000000 in
theorem k_X7_tightTwos {g : XC} (C : XOk g cX7_tightTwos RX7 wsX7_tightTwos rm_X7_tightTwos 5) (a_p1 : Nat) (a_p1_gaps : Nat) (a_p2 : Nat) (c_p1_size : Int) (c_p1_gaps : Nat → Int) (c_p2 : Nat → Int)  (K : Int → Prop) (hK : ∀ (r : Int), K r → (narrow .int (.int (jz r)) = .int (jz r) → FinI g 0 0 (w_X7_tightTwos (xG g) a_p1 a_p1_gaps a_p2 c_p1_size c_p1_gaps c_p2) (jz r))) (h : wp (f_X7_tightTwos c_p1_size c_p1_gaps c_p2) K) : WW g 0 0 (w_X7_tightTwos (xG g) a_p1 a_p1_gaps a_p2 c_p1_size c_p1_gaps c_p2) 0 [(0, .ref a_p1), (1, .ref a_p2)] [] := by
  unfold f_X7_tightTwos at h
  refine r_iconst C (pc := 0) dX7_tightTwos_0 ?_
  refine r_istore_n C (pc := 1) dX7_tightTwos_1 rfl (by decide) (L' := [(0, .ref a_p1), (1, .ref a_p2), (2, .int (jz 0))]) rfl ?_
  refine r_iconst C (pc := 2) dX7_tightTwos_2 ?_
  refine r_istore_n C (pc := 3) dX7_tightTwos_3 rfl (by decide) (L' := [(0, .ref a_p1), (1, .ref a_p2), (2, .int (jz 0)), (3, .int (jz 0))]) rfl ?_
  refine lq2_e (fun (v2_4 : Int) (v3_4 : Int) => WW g 0 0 (w_X7_tightTwos (xG g) a_p1 a_p1_gaps a_p2 c_p1_size c_p1_gaps c_p2) 4 [(0, .ref a_p1), (1, .ref a_p2), (2, .int (jz v2_4)), (3, .int (jz v3_4))] []) h (fun n4 hn4 v2_4 v3_4 h => ?_)
  refine r_iload_n C (pc := 4) dX7_tightTwos_4 rfl 3 rfl ?_
  refine r_aload_n C (pc := 5) dX7_tightTwos_5 rfl 0 rfl ?_
  refine r_get C (pc := 6) dX7_tightTwos_6 gf_X7_tightTwos_22 0 rfl rfl ?_
  refine r_icmp_ge C (pc := 9) 67 dX7_tightTwos_9 rfl h (fun c9 h => ?_) (fun c9 h => ?_)
  · refine r_iload_n C (pc := 67) dX7_tightTwos_67 rfl 2 rfl ?_
    exact r_iret C (pc := 68) dX7_tightTwos_68 (hK v2_4 (wp_s h) rfl)
  · refine r_iconst C (pc := 12) dX7_tightTwos_12 ?_
    refine r_istore C (pc := 13) dX7_tightTwos_13 (by decide) (L' := [(0, .ref a_p1), (1, .ref a_p2), (2, .int (jz v2_4)), (3, .int (jz v3_4)), (4, .int (jz 0))]) rfl ?_
    refine lq2_e (fun (v2_15 : Int) (v4_15 : Int) => WW g 0 0 (w_X7_tightTwos (xG g) a_p1 a_p1_gaps a_p2 c_p1_size c_p1_gaps c_p2) 15 [(0, .ref a_p1), (1, .ref a_p2), (2, .int (jz v2_15)), (3, .int (jz v3_4)), (4, .int (jz v4_15))] []) h (fun n15 hn15 v2_15 v4_15 h => ?_)
    refine r_iload C (pc := 15) dX7_tightTwos_15 4 rfl ?_
    refine r_aload_n C (pc := 17) dX7_tightTwos_17 rfl 0 rfl ?_
    refine r_get C (pc := 18) dX7_tightTwos_18 gf_X7_tightTwos_22 0 rfl rfl ?_
    refine r_icmp_ge C (pc := 21) 61 dX7_tightTwos_21 rfl h (fun c21 h => ?_) (fun c21 h => ?_)
    · refine r_iinc C (pc := 61) dX7_tightTwos_61 3 rfl (by decide) (L' := [(0, .ref a_p1), (1, .ref a_p2), (2, .int (jz v2_15)), (3, .int (jz (v3_4 + 1))), (4, .int (jz v4_15))]) rfl ?_
      refine r_goto C (pc := 64) 4 dX7_tightTwos_64 rfl ?_
      refine r_sub [0, 1, 2, 3] rfl ?_
      exact hn4 v2_15 (v3_4 + 1) h
    · refine r_aload_n C (pc := 24) dX7_tightTwos_24 rfl 1 rfl ?_
      refine r_iload_n C (pc := 25) dX7_tightTwos_25 rfl 3 rfl ?_
      refine r_iald C (pc := 26) dX7_tightTwos_26 h 2 rfl (fun h => ?_)
      refine r_aload_n C (pc := 27) dX7_tightTwos_27 rfl 1 rfl ?_
      refine r_iload C (pc := 28) dX7_tightTwos_28 4 rfl ?_
      refine r_iald C (pc := 30) dX7_tightTwos_30 h 2 rfl (fun h => ?_)
      refine r_iadd C (pc := 31) dX7_tightTwos_31 ?_
      refine r_iconst C (pc := 32) dX7_tightTwos_32 ?_
      refine r_aload_n C (pc := 33) dX7_tightTwos_33 rfl 0 rfl ?_
      refine r_iload_n C (pc := 34) dX7_tightTwos_34 rfl 3 rfl ?_
      refine r_iload C (pc := 35) dX7_tightTwos_35 4 rfl ?_
      obtain ⟨r37, e37, h⟩ := wp_b1 h
      refine b_cVi C (pc := 37) dX7_tightTwos_37 (c_X4_gap (xl g) (xG g) a_p1 a_p1_gaps c_p1_size c_p1_gaps v3_4 v4_15 r37 e37) rfl gX7_tightTwos_X4_gap ⟨rfl, rfl⟩ 2 hd_X4_gap ⟨Nat.le_of_ble_eq_true rfl, Nat.le_of_ble_eq_true rfl⟩ rfl 0 rfl rfl rfl [0, 1] rfl (srt_nd 0 rfl) (ws' := w_X7_tightTwos (xG g) a_p1 a_p1_gaps a_p2 c_p1_size c_p1_gaps c_p2) (Put.m rfl rfl rfl) rfl (rest := [.int (jz 2), .int (jz ((c_p2 (ix v3_4)) + (c_p2 (ix v4_15))))]) rfl (Nat.le_of_ble_eq_true rfl) ⟨Nat.zero_le _, Nat.zero_le _⟩ ?_
      refine r_imul C (pc := 40) dX7_tightTwos_40 ?_
      refine jn_e (fun (k55 : Int → Option Int) => ∀ (v2_55 : Int), wp (k55 v2_55) K → WW g 0 0 (w_X7_tightTwos (xG g) a_p1 a_p1_gaps a_p2 c_p1_size c_p1_gaps c_p2) 55 [(0, .ref a_p1), (1, .ref a_p2), (2, .int (jz v2_55)), (3, .int (jz v3_4)), (4, .int (jz v4_15))] []) h (fun v2_55 h => ?_) (fun k55 hk55 h => ?_)
      · refine r_iinc C (pc := 55) dX7_tightTwos_55 4 rfl (by decide) (L' := [(0, .ref a_p1), (1, .ref a_p2), (2, .int (jz v2_55)), (3, .int (jz v3_4)), (4, .int (jz (v4_15 + 1)))]) rfl ?_
        refine r_goto C (pc := 58) 15 dX7_tightTwos_58 rfl ?_
        exact hn15 v2_55 (v4_15 + 1) h
      · refine r_icmp_ne C (pc := 41) 55 dX7_tightTwos_41 rfl h (fun c41 h => ?_) (fun c41 h => ?_)
        · exact hk55 v2_15 h
        · refine r_iload_n C (pc := 44) dX7_tightTwos_44 rfl 2 rfl ?_
          refine r_iconst C (pc := 45) dX7_tightTwos_45 ?_
          refine r_iconst C (pc := 46) dX7_tightTwos_46 ?_
          refine r_iload_n C (pc := 47) dX7_tightTwos_47 rfl 3 rfl ?_
          refine r_imul C (pc := 48) dX7_tightTwos_48 ?_
          refine r_iload C (pc := 49) dX7_tightTwos_49 4 rfl ?_
          refine r_iadd C (pc := 51) dX7_tightTwos_51 ?_
          refine r_ishl C (pc := 52) dX7_tightTwos_52 ?_
          refine r_ior C (pc := 53) dX7_tightTwos_53 ?_
          refine r_let h (fun x54 h => ?_)
          refine r_istore_n C (pc := 54) dX7_tightTwos_54 rfl (by decide) (L' := [(0, .ref a_p1), (1, .ref a_p2), (2, .int (jz x54)), (3, .int (jz v3_4)), (4, .int (jz v4_15))]) rfl ?_
          exact hk55 x54 h
theorem c_X7_tightTwos (l : Launch) (G : gG) (a_p1 : Nat) (a_p1_gaps : Nat) (a_p2 : Nat) (c_p1_size : Int) (c_p1_gaps : Nat → Int) (c_p2 : Nat → Int) (r : Int) (hf : f_X7_tightTwos c_p1_size c_p1_gaps c_p2 = some r) : CTi l yX7_tightTwos wsX7_tightTwos rm_X7_tightTwos G (w_X7_tightTwos G a_p1 a_p1_gaps a_p2 c_p1_size c_p1_gaps c_p2) [.ref a_p1, .ref a_p2] (jz r) (w_X7_tightTwos G a_p1 a_p1_gaps a_p2 c_p1_size c_p1_gaps c_p2) := CTi_of (by decide) rfl rfl (Nat.le_of_ble_eq_true rfl) (fun g C hG hl hF => by
    subst hG
    subst hl
    exact k_X7_tightTwos C a_p1 a_p1_gaps a_p2 c_p1_size c_p1_gaps c_p2 (fun x => x = r) (fun r' e => by cases e; exact hF) ⟨_, hf, rfl⟩)

-- TightHulls$Ties.partners(II)I
def f_X7_partners (p1 : Int) (p2 : Int) : Option Int := some (andI (shrI p1 (5 * p2)) 31)
abbrev rm_X7_partners : Room := { frames := 0, cells := 0, slots := 0, locals := 0 }
abbrev w_X7_partners (G : gG)  : va_W := []
theorem hd_X7_partners : yX7_partners.cls ≠ "java/lang/invoke/MethodHandle" ∧ yX7_partners.cls ≠ "java/lang/invoke/VarHandle" ∧ (parseMethodDescriptor yX7_partners.desc).map (fun d => d.parameters.length) = some 2 := by decide +kernel
set_option maxRecDepth 100000 in
set_option maxHeartbeats 4000000 in
theorem k_X7_partners {g : XC} (C : XOk g cX7_partners RX7 wsX7_partners rm_X7_partners 2)  (p1 : Int) (p2 : Int) (K : Int → Prop) (hK : ∀ (r : Int), K r → (narrow .int (.int (jz r)) = .int (jz r) → FinI g 0 0 (w_X7_partners (xG g)) (jz r))) (h : wp (f_X7_partners p1 p2) K) : WW g 0 0 (w_X7_partners (xG g)) 0 [(0, .int (jz p1)), (1, .int (jz p2))] [] := by
  unfold f_X7_partners at h
  refine r_iload_n C (pc := 0) dX7_partners_0 rfl 0 rfl ?_
  refine r_iconst C (pc := 1) dX7_partners_1 ?_
  refine r_iload_n C (pc := 2) dX7_partners_2 rfl 1 rfl ?_
  refine r_imul C (pc := 3) dX7_partners_3 ?_
  refine r_ishr C (pc := 4) dX7_partners_4 ?_
  refine r_bipush C (pc := 5) dX7_partners_5 rfl ?_
  refine r_iand C (pc := 7) dX7_partners_7 ?_
  exact r_iret C (pc := 8) dX7_partners_8 (hK (andI (shrI p1 (5 * p2)) 31) (wp_s h) rfl)
theorem c_X7_partners (l : Launch) (G : gG) (p1 : Int) (p2 : Int) (r : Int) (hf : f_X7_partners p1 p2 = some r) : CTi l yX7_partners wsX7_partners rm_X7_partners G (w_X7_partners G) [.int (jz p1), .int (jz p2)] (jz r) (w_X7_partners G) := CTi_of (by decide) rfl rfl (Nat.le_of_ble_eq_true rfl) (fun g C hG hl hF => by
    subst hG
    subst hl
    exact k_X7_partners C p1 p2 (fun x => x = r) (fun r' e => by cases e; exact hF) ⟨_, hf, rfl⟩)

-- TightHulls$Ties.coverAll(II)Z
def f_X7_coverAll (p1 : Int) (p2 : Int) : Option Int := lq1 (fun (n2 : Int → Option Int) (v2_2 : Int) => if ltI v2_2 p1 = true then (bd1 (f_X7_partners p2 v2_2) (fun r9 => if eqI r9 0 = true then (some 0) else (n2 (v2_2 + 1)))) else (some 1)) 300 0
abbrev rm_X7_coverAll : Room := { frames := 1, cells := 0, slots := 0, locals := 21 }
abbrev w_X7_coverAll (G : gG)  : va_W := []
theorem hd_X7_coverAll : yX7_coverAll.cls ≠ "java/lang/invoke/MethodHandle" ∧ yX7_coverAll.cls ≠ "java/lang/invoke/VarHandle" ∧ (parseMethodDescriptor yX7_coverAll.desc).map (fun d => d.parameters.length) = some 2 := by decide +kernel
set_option maxRecDepth 100000 in
set_option maxHeartbeats 4000000 in
theorem k_X7_coverAll {g : XC} (C : XOk g cX7_coverAll RX7 wsX7_coverAll rm_X7_coverAll 3)  (p1 : Int) (p2 : Int) (K : Int → Prop) (hK : ∀ (r : Int), K r → (narrow .boolean (.int (jz r)) = .int (jz r) → FinI g 0 0 (w_X7_coverAll (xG g)) (jz r))) (h : wp (f_X7_coverAll p1 p2) K) : WW g 0 0 (w_X7_coverAll (xG g)) 0 [(0, .int (jz p1)), (1, .int (jz p2))] [] := by
  unfold f_X7_coverAll at h
  refine r_iconst C (pc := 0) dX7_coverAll_0 ?_
  refine r_istore_n C (pc := 1) dX7_coverAll_1 rfl (by decide) (L' := [(0, .int (jz p1)), (1, .int (jz p2)), (2, .int (jz 0))]) rfl ?_
  refine lq1_e (fun (v2_2 : Int) => WW g 0 0 (w_X7_coverAll (xG g)) 2 [(0, .int (jz p1)), (1, .int (jz p2)), (2, .int (jz v2_2))] []) h (fun n2 hn2 v2_2 h => ?_)
  refine r_iload_n C (pc := 2) dX7_coverAll_2 rfl 2 rfl ?_
  refine r_iload_n C (pc := 3) dX7_coverAll_3 rfl 0 rfl ?_
  refine r_icmp_ge C (pc := 4) 23 dX7_coverAll_4 rfl h (fun c4 h => ?_) (fun c4 h => ?_)
  · refine r_iconst C (pc := 23) dX7_coverAll_23 ?_
    exact r_iret C (pc := 24) dX7_coverAll_24 (hK 1 (wp_s h) (nB rfl).1)
  · refine r_iload_n C (pc := 7) dX7_coverAll_7 rfl 1 rfl ?_
    refine r_iload_n C (pc := 8) dX7_coverAll_8 rfl 2 rfl ?_
    obtain ⟨r9, e9, h⟩ := wp_b1 h
    refine b_cSi C (pc := 9) dX7_coverAll_9 (c_X7_partners (xl g) (xG g) p2 v2_2 r9 e9) rfl gX7_coverAll_X7_partners ⟨rfl, rfl⟩ 2 hd_X7_partners ⟨Nat.le_of_ble_eq_true rfl, Nat.le_of_ble_eq_true rfl⟩ rfl [] rfl (srt_nd 0 rfl) (ws' := w_X7_coverAll (xG g)) (Put.m rfl rfl rfl) rfl (rest := []) rfl (Nat.le_of_ble_eq_true rfl) ⟨Nat.zero_le _, Nat.zero_le _⟩ ?_
    refine r_if_ne C (pc := 12) 17 dX7_coverAll_12 rfl h (fun c12 h => ?_) (fun c12 h => ?_)
    · refine r_iinc C (pc := 17) dX7_coverAll_17 2 rfl (by decide) (L' := [(0, .int (jz p1)), (1, .int (jz p2)), (2, .int (jz (v2_2 + 1)))]) rfl ?_
      refine r_goto C (pc := 20) 2 dX7_coverAll_20 rfl ?_
      exact hn2 (v2_2 + 1) h
    · refine r_iconst C (pc := 15) dX7_coverAll_15 ?_
      exact r_iret C (pc := 16) dX7_coverAll_16 (hK 0 (wp_s h) (nB rfl).1)
theorem c_X7_coverAll (l : Launch) (G : gG) (p1 : Int) (p2 : Int) (r : Int) (hf : f_X7_coverAll p1 p2 = some r) : CTi l yX7_coverAll wsX7_coverAll rm_X7_coverAll G (w_X7_coverAll G) [.int (jz p1), .int (jz p2)] (jz r) (w_X7_coverAll G) := CTi_of (by decide) rfl rfl (Nat.le_of_ble_eq_true rfl) (fun g C hG hl hF => by
    subst hG
    subst hl
    exact k_X7_coverAll C p1 p2 (fun x => x = r) (fun r' e => by cases e; exact hF) ⟨_, hf, rfl⟩)

-- TightHulls$Ties.joins(III)Z
def f_X7_joins (p1 : Int) (p2 : Int) (p3 : Int) : Option Int := bd1 (f_X7_partners p1 p2) (fun r2 => jn (fun (s0_18 : Int) => grd (isB s0_18) (some s0_18)) (fun (k18 : Int → Option Int) => if eqI (andI (shrI r2 p3) 1) 1 = true then (k18 1) else (k18 0)))
abbrev rm_X7_joins : Room := { frames := 1, cells := 0, slots := 0, locals := 21 }
abbrev w_X7_joins (G : gG)  : va_W := []
theorem hd_X7_joins : yX7_joins.cls ≠ "java/lang/invoke/MethodHandle" ∧ yX7_joins.cls ≠ "java/lang/invoke/VarHandle" ∧ (parseMethodDescriptor yX7_joins.desc).map (fun d => d.parameters.length) = some 3 := by decide +kernel
set_option maxRecDepth 100000 in
set_option maxHeartbeats 4000000 in
theorem k_X7_joins {g : XC} (C : XOk g cX7_joins RX7 wsX7_joins rm_X7_joins 3)  (p1 : Int) (p2 : Int) (p3 : Int) (K : Int → Prop) (hK : ∀ (r : Int), K r → (narrow .boolean (.int (jz r)) = .int (jz r) → FinI g 0 0 (w_X7_joins (xG g)) (jz r))) (h : wp (f_X7_joins p1 p2 p3) K) : WW g 0 0 (w_X7_joins (xG g)) 0 [(0, .int (jz p1)), (1, .int (jz p2)), (2, .int (jz p3))] [] := by
  unfold f_X7_joins at h
  refine r_iload_n C (pc := 0) dX7_joins_0 rfl 0 rfl ?_
  refine r_iload_n C (pc := 1) dX7_joins_1 rfl 1 rfl ?_
  obtain ⟨r2, e2, h⟩ := wp_b1 h
  refine b_cSi C (pc := 2) dX7_joins_2 (c_X7_partners (xl g) (xG g) p1 p2 r2 e2) rfl gX7_joins_X7_partners ⟨rfl, rfl⟩ 2 hd_X7_partners ⟨Nat.le_of_ble_eq_true rfl, Nat.le_of_ble_eq_true rfl⟩ rfl [] rfl (srt_nd 0 rfl) (ws' := w_X7_joins (xG g)) (Put.m rfl rfl rfl) rfl (rest := []) rfl (Nat.le_of_ble_eq_true rfl) ⟨Nat.zero_le _, Nat.zero_le _⟩ ?_
  refine r_iload_n C (pc := 5) dX7_joins_5 rfl 2 rfl ?_
  refine r_ishr C (pc := 6) dX7_joins_6 ?_
  refine r_iconst C (pc := 7) dX7_joins_7 ?_
  refine r_iand C (pc := 8) dX7_joins_8 ?_
  refine r_iconst C (pc := 9) dX7_joins_9 ?_
  refine jn_e (fun (k18 : Int → Option Int) => ∀ (s0_18 : Int), wp (k18 s0_18) K → WW g 0 0 (w_X7_joins (xG g)) 18 [] [.int (jz s0_18)]) h (fun s0_18 h => ?_) (fun k18 hk18 h => ?_)
  · exact r_iret C (pc := 18) dX7_joins_18 (hK s0_18 (wp_s (wp_g h).2) (nB (wp_g h).1).1)
  · refine r_icmp_ne C (pc := 10) 17 dX7_joins_10 rfl h (fun c10 h => ?_) (fun c10 h => ?_)
    · refine r_iconst C (pc := 17) dX7_joins_17 ?_
      refine r_sub [] rfl ?_
      exact hk18 0 h
    · refine r_iconst C (pc := 13) dX7_joins_13 ?_
      refine r_goto C (pc := 14) 18 dX7_joins_14 rfl ?_
      refine r_sub [] rfl ?_
      exact hk18 1 h
theorem c_X7_joins (l : Launch) (G : gG) (p1 : Int) (p2 : Int) (p3 : Int) (r : Int) (hf : f_X7_joins p1 p2 p3 = some r) : CTi l yX7_joins wsX7_joins rm_X7_joins G (w_X7_joins G) [.int (jz p1), .int (jz p2), .int (jz p3)] (jz r) (w_X7_joins G) := CTi_of (by decide) rfl rfl (Nat.le_of_ble_eq_true rfl) (fun g C hG hl hF => by
    subst hG
    subst hl
    exact k_X7_joins C p1 p2 p3 (fun x => x = r) (fun r' e => by cases e; exact hF) ⟨_, hf, rfl⟩)

-- java/lang/Integer.bitCount(I)I
def f_J6_bitCount_0f7a4 (p1 : Int) : Option Int := lv ((p1 - (andI (ushI p1 1) 1431655765))) (fun x9 => lv (((andI x9 858993459) + (andI (ushI x9 2) 858993459))) (fun x23 => lv ((andI (x23 + (ushI x23 4)) 252645135)) (fun x33 => lv ((x33 + (ushI x33 8))) (fun x40 => lv ((x40 + (ushI x40 16))) (fun x47 => some (andI x47 63))))))
abbrev rm_J6_bitCount_0f7a4 : Room := { frames := 0, cells := 0, slots := 0, locals := 0 }
abbrev w_J6_bitCount_0f7a4 (G : gG)  : va_W := []
theorem hd_J6_bitCount_0f7a4 : yJ6_bitCount_0f7a4.cls ≠ "java/lang/invoke/MethodHandle" ∧ yJ6_bitCount_0f7a4.cls ≠ "java/lang/invoke/VarHandle" ∧ (parseMethodDescriptor yJ6_bitCount_0f7a4.desc).map (fun d => d.parameters.length) = some 1 := by decide +kernel
theorem mm_J6_bitCount_0f7a4_1 : Jvm.Cond.constant RJ6 265 (1431655765) ∈ wsJ6_bitCount_0f7a4 := List.mem_of_getElem? (i := 1) rfl
theorem mm_J6_bitCount_0f7a4_2 : Jvm.Cond.constant RJ6 266 (858993459) ∈ wsJ6_bitCount_0f7a4 := List.mem_of_getElem? (i := 2) rfl
theorem mm_J6_bitCount_0f7a4_3 : Jvm.Cond.constant RJ6 267 (252645135) ∈ wsJ6_bitCount_0f7a4 := List.mem_of_getElem? (i := 3) rfl
set_option maxRecDepth 100000 in
set_option maxHeartbeats 4000000 in
theorem k_J6_bitCount_0f7a4 {g : XC} (C : XOk g cJ6_bitCount_0f7a4 RJ6 wsJ6_bitCount_0f7a4 rm_J6_bitCount_0f7a4 1)  (p1 : Int) (K : Int → Prop) (hK : ∀ (r : Int), K r → (narrow .int (.int (jz r)) = .int (jz r) → FinI g 0 0 (w_J6_bitCount_0f7a4 (xG g)) (jz r))) (h : wp (f_J6_bitCount_0f7a4 p1) K) : WW g 0 0 (w_J6_bitCount_0f7a4 (xG g)) 0 [(0, .int (jz p1))] [] := by
  unfold f_J6_bitCount_0f7a4 at h
  refine r_iload_n C (pc := 0) dJ6_bitCount_0f7a4_0 rfl 0 rfl ?_
  refine r_iload_n C (pc := 1) dJ6_bitCount_0f7a4_1 rfl 0 rfl ?_
  refine r_iconst C (pc := 2) dJ6_bitCount_0f7a4_2 ?_
  refine r_iushr C (pc := 3) dJ6_bitCount_0f7a4_3 ?_
  refine r_ldcw C (pc := 4) 1431655765 rfl dJ6_bitCount_0f7a4_4 mm_J6_bitCount_0f7a4_1 ?_
  refine r_iand C (pc := 7) dJ6_bitCount_0f7a4_7 ?_
  refine r_isub C (pc := 8) dJ6_bitCount_0f7a4_8 ?_
  refine r_let h (fun x9 h => ?_)
  refine r_istore_n C (pc := 9) dJ6_bitCount_0f7a4_9 rfl (by decide) (L' := [(0, .int (jz x9))]) rfl ?_
  refine r_iload_n C (pc := 10) dJ6_bitCount_0f7a4_10 rfl 0 rfl ?_
  refine r_ldcw C (pc := 11) 858993459 rfl dJ6_bitCount_0f7a4_11 mm_J6_bitCount_0f7a4_2 ?_
  refine r_iand C (pc := 14) dJ6_bitCount_0f7a4_14 ?_
  refine r_iload_n C (pc := 15) dJ6_bitCount_0f7a4_15 rfl 0 rfl ?_
  refine r_iconst C (pc := 16) dJ6_bitCount_0f7a4_16 ?_
  refine r_iushr C (pc := 17) dJ6_bitCount_0f7a4_17 ?_
  refine r_ldcw C (pc := 18) 858993459 rfl dJ6_bitCount_0f7a4_18 mm_J6_bitCount_0f7a4_2 ?_
  refine r_iand C (pc := 21) dJ6_bitCount_0f7a4_21 ?_
  refine r_iadd C (pc := 22) dJ6_bitCount_0f7a4_22 ?_
  refine r_let h (fun x23 h => ?_)
  refine r_istore_n C (pc := 23) dJ6_bitCount_0f7a4_23 rfl (by decide) (L' := [(0, .int (jz x23))]) rfl ?_
  refine r_iload_n C (pc := 24) dJ6_bitCount_0f7a4_24 rfl 0 rfl ?_
  refine r_iload_n C (pc := 25) dJ6_bitCount_0f7a4_25 rfl 0 rfl ?_
  refine r_iconst C (pc := 26) dJ6_bitCount_0f7a4_26 ?_
  refine r_iushr C (pc := 27) dJ6_bitCount_0f7a4_27 ?_
  refine r_iadd C (pc := 28) dJ6_bitCount_0f7a4_28 ?_
  refine r_ldcw C (pc := 29) 252645135 rfl dJ6_bitCount_0f7a4_29 mm_J6_bitCount_0f7a4_3 ?_
  refine r_iand C (pc := 32) dJ6_bitCount_0f7a4_32 ?_
  refine r_let h (fun x33 h => ?_)
  refine r_istore_n C (pc := 33) dJ6_bitCount_0f7a4_33 rfl (by decide) (L' := [(0, .int (jz x33))]) rfl ?_
  refine r_iload_n C (pc := 34) dJ6_bitCount_0f7a4_34 rfl 0 rfl ?_
  refine r_iload_n C (pc := 35) dJ6_bitCount_0f7a4_35 rfl 0 rfl ?_
  refine r_bipush C (pc := 36) dJ6_bitCount_0f7a4_36 rfl ?_
  refine r_iushr C (pc := 38) dJ6_bitCount_0f7a4_38 ?_
  refine r_iadd C (pc := 39) dJ6_bitCount_0f7a4_39 ?_
  refine r_let h (fun x40 h => ?_)
  refine r_istore_n C (pc := 40) dJ6_bitCount_0f7a4_40 rfl (by decide) (L' := [(0, .int (jz x40))]) rfl ?_
  refine r_iload_n C (pc := 41) dJ6_bitCount_0f7a4_41 rfl 0 rfl ?_
  refine r_iload_n C (pc := 42) dJ6_bitCount_0f7a4_42 rfl 0 rfl ?_
  refine r_bipush C (pc := 43) dJ6_bitCount_0f7a4_43 rfl ?_
  refine r_iushr C (pc := 45) dJ6_bitCount_0f7a4_45 ?_
  refine r_iadd C (pc := 46) dJ6_bitCount_0f7a4_46 ?_
  refine r_let h (fun x47 h => ?_)
  refine r_istore_n C (pc := 47) dJ6_bitCount_0f7a4_47 rfl (by decide) (L' := [(0, .int (jz x47))]) rfl ?_
  refine r_iload_n C (pc := 48) dJ6_bitCount_0f7a4_48 rfl 0 rfl ?_
  refine r_bipush C (pc := 49) dJ6_bitCount_0f7a4_49 rfl ?_
  refine r_iand C (pc := 51) dJ6_bitCount_0f7a4_51 ?_
  exact r_iret C (pc := 52) dJ6_bitCount_0f7a4_52 (hK (andI x47 63) (wp_s h) rfl)
theorem c_J6_bitCount_0f7a4 (l : Launch) (G : gG) (p1 : Int) (r : Int) (hf : f_J6_bitCount_0f7a4 p1 = some r) : CTi l yJ6_bitCount_0f7a4 wsJ6_bitCount_0f7a4 rm_J6_bitCount_0f7a4 G (w_J6_bitCount_0f7a4 G) [.int (jz p1)] (jz r) (w_J6_bitCount_0f7a4 G) := CTi_of (by decide) rfl rfl (Nat.le_of_ble_eq_true rfl) (fun g C hG hl hF => by
    subst hG
    subst hl
    exact k_J6_bitCount_0f7a4 C p1 (fun x => x = r) (fun r' e => by cases e; exact hF) ⟨_, hf, rfl⟩)

-- TightHulls$Ties.manyTwos(I)I
def f_X7_manyTwos (p1 : Int) : Option Int := bd1 (f_J6_bitCount_0f7a4 (andI p1 17593311)) (fun r4 => some r4)
abbrev rm_X7_manyTwos : Room := { frames := 1, cells := 0, slots := 0, locals := 20 }
abbrev w_X7_manyTwos (G : gG)  : va_W := []
theorem hd_X7_manyTwos : yX7_manyTwos.cls ≠ "java/lang/invoke/MethodHandle" ∧ yX7_manyTwos.cls ≠ "java/lang/invoke/VarHandle" ∧ (parseMethodDescriptor yX7_manyTwos.desc).map (fun d => d.parameters.length) = some 1 := by decide +kernel
theorem mm_X7_manyTwos_1 : Jvm.Cond.constant RX7 15 (17593311) ∈ wsX7_manyTwos := List.mem_of_getElem? (i := 1) rfl
set_option maxRecDepth 100000 in
set_option maxHeartbeats 4000000 in
theorem k_X7_manyTwos {g : XC} (C : XOk g cX7_manyTwos RX7 wsX7_manyTwos rm_X7_manyTwos 1)  (p1 : Int) (K : Int → Prop) (hK : ∀ (r : Int), K r → (narrow .int (.int (jz r)) = .int (jz r) → FinI g 0 0 (w_X7_manyTwos (xG g)) (jz r))) (h : wp (f_X7_manyTwos p1) K) : WW g 0 0 (w_X7_manyTwos (xG g)) 0 [(0, .int (jz p1))] [] := by
  unfold f_X7_manyTwos at h
  refine r_iload_n C (pc := 0) dX7_manyTwos_0 rfl 0 rfl ?_
  refine r_ldc C (pc := 1) 17593311 rfl dX7_manyTwos_1 mm_X7_manyTwos_1 ?_
  refine r_iand C (pc := 3) dX7_manyTwos_3 ?_
  obtain ⟨r4, e4, h⟩ := wp_b1 h
  refine b_cSi C (pc := 4) dX7_manyTwos_4 (c_J6_bitCount_0f7a4 (xl g) (xG g) (andI p1 17593311) r4 e4) rfl gX7_manyTwos_J6_bitCount_0f7a4 ⟨rfl, rfl⟩ 1 hd_J6_bitCount_0f7a4 ⟨Nat.le_of_ble_eq_true rfl, Nat.le_of_ble_eq_true rfl⟩ rfl [] rfl (srt_nd 0 rfl) (ws' := w_X7_manyTwos (xG g)) (Put.m rfl rfl rfl) rfl (rest := []) rfl (Nat.le_of_ble_eq_true rfl) ⟨Nat.zero_le _, Nat.zero_le _⟩ ?_
  exact r_iret C (pc := 7) dX7_manyTwos_7 (hK r4 (wp_s h) rfl)
theorem c_X7_manyTwos (l : Launch) (G : gG) (p1 : Int) (r : Int) (hf : f_X7_manyTwos p1 = some r) : CTi l yX7_manyTwos wsX7_manyTwos rm_X7_manyTwos G (w_X7_manyTwos G) [.int (jz p1)] (jz r) (w_X7_manyTwos G) := CTi_of (by decide) rfl rfl (Nat.le_of_ble_eq_true rfl) (fun g C hG hl hF => by
    subst hG
    subst hl
    exact k_X7_manyTwos C p1 (fun x => x = r) (fun r' e => by cases e; exact hF) ⟨_, hf, rfl⟩)

-- TightHulls$Ties.areLeast(LTightHulls$Table;[I)Z
def f_X7_areLeast (c_p1_size : Int) (c_p1_gaps : Nat → Int) (c_p2 : Nat → Int) : Option Int := bd1 (f_X7_keepApart c_p1_size c_p1_gaps c_p2) (fun r2 => jn (fun (s0_28 : Int) => grd (isB s0_28) (some s0_28)) (fun (k28 : Int → Option Int) => jn (k28 0) (fun (k27 : Option Int) => if eqI r2 0 = true then k27 else (bd1 (f_X7_tightTwos c_p1_size c_p1_gaps c_p2) (fun r14 => bd1 (f_X7_coverAll c_p1_size r14) (fun r17 => if eqI r17 0 = true then k27 else (k28 1)))))))
abbrev rm_X7_areLeast : Room := { frames := 2, cells := 0, slots := 0, locals := 47 }
abbrev w_X7_areLeast (G : gG) (a_p1 : Nat) (a_p1_gaps : Nat) (a_p2 : Nat) (c_p1_size : Int) (c_p1_gaps : Nat → Int) (c_p2 : Nat → Int) : va_W := [(a_p1, .inr (4, [.int (jz c_p1_size), .ref a_p1_gaps])), (a_p1_gaps, aI G 25 c_p1_gaps), (a_p2, aI G 5 c_p2)]
theorem hd_X7_areLeast : yX7_areLeast.cls ≠ "java/lang/invoke/MethodHandle" ∧ yX7_areLeast.cls ≠ "java/lang/invoke/VarHandle" ∧ (parseMethodDescriptor yX7_areLeast.desc).map (fun d => d.parameters.length) = some 2 := by decide +kernel
theorem in_X7_areLeast_X4 : ∀ w ∈ u_ws RX4 TX4 2, w ∈ wsX7_areLeast := fun w h => List.mem_cons_of_mem _ (List.mem_append_right _ (h))
theorem gf_X7_areLeast_22 : GF wsX7_areLeast RX7 22 4 0 := ⟨RX4, TX4, 2, rfl, in_X7_areLeast_X4, by decide, List.mem_of_getElem? (i := 1) rfl⟩
set_option maxRecDepth 100000 in
set_option maxHeartbeats 4000000 in
theorem k_X7_areLeast {g : XC} (C : XOk g cX7_areLeast RX7 wsX7_areLeast rm_X7_areLeast 2) (a_p1 : Nat) (a_p1_gaps : Nat) (a_p2 : Nat) (c_p1_size : Int) (c_p1_gaps : Nat → Int) (c_p2 : Nat → Int)  (K : Int → Prop) (hK : ∀ (r : Int), K r → (narrow .boolean (.int (jz r)) = .int (jz r) → FinI g 0 0 (w_X7_areLeast (xG g) a_p1 a_p1_gaps a_p2 c_p1_size c_p1_gaps c_p2) (jz r))) (h : wp (f_X7_areLeast c_p1_size c_p1_gaps c_p2) K) : WW g 0 0 (w_X7_areLeast (xG g) a_p1 a_p1_gaps a_p2 c_p1_size c_p1_gaps c_p2) 0 [(0, .ref a_p1), (1, .ref a_p2)] [] := by
  unfold f_X7_areLeast at h
  refine r_aload_n C (pc := 0) dX7_areLeast_0 rfl 0 rfl ?_
  refine r_aload_n C (pc := 1) dX7_areLeast_1 rfl 1 rfl ?_
  obtain ⟨r2, e2, h⟩ := wp_b1 h
  refine b_cSi C (pc := 2) dX7_areLeast_2 (c_X7_keepApart (xl g) (xG g) a_p1 a_p1_gaps a_p2 c_p1_size c_p1_gaps c_p2 r2 e2) rfl gX7_areLeast_X7_keepApart ⟨rfl, rfl⟩ 2 hd_X7_keepApart ⟨Nat.le_of_ble_eq_true rfl, Nat.le_of_ble_eq_true rfl⟩ rfl [0, 1, 2] rfl (srt_nd 0 rfl) (ws' := w_X7_areLeast (xG g) a_p1 a_p1_gaps a_p2 c_p1_size c_p1_gaps c_p2) (Put.m rfl rfl rfl) rfl (rest := []) rfl (Nat.le_of_ble_eq_true rfl) ⟨Nat.zero_le _, Nat.zero_le _⟩ ?_
  refine jn_e (fun (k28 : Int → Option Int) => ∀ (s0_28 : Int), wp (k28 s0_28) K → WW g 0 0 (w_X7_areLeast (xG g) a_p1 a_p1_gaps a_p2 c_p1_size c_p1_gaps c_p2) 28 [] [.int (jz s0_28)]) h (fun s0_28 h => ?_) (fun k28 hk28 h => ?_)
  · exact r_iret C (pc := 28) dX7_areLeast_28 (hK s0_28 (wp_s (wp_g h).2) (nB (wp_g h).1).1)
  · refine jn_e (fun (k27 : Option Int) => wp (k27) K → WW g 0 0 (w_X7_areLeast (xG g) a_p1 a_p1_gaps a_p2 c_p1_size c_p1_gaps c_p2) 27 [] []) h (fun h => ?_) (fun k27 hk27 h => ?_)
    · refine r_iconst C (pc := 27) dX7_areLeast_27 ?_
      exact hk28 0 h
    · refine r_if_eq C (pc := 5) 27 dX7_areLeast_5 rfl h (fun c5 h => ?_) (fun c5 h => ?_)
      · refine r_sub [] rfl ?_
        exact hk27 h
      · refine r_aload_n C (pc := 8) dX7_areLeast_8 rfl 0 rfl ?_
        refine r_get C (pc := 9) dX7_areLeast_9 gf_X7_areLeast_22 0 rfl rfl ?_
        refine r_aload_n C (pc := 12) dX7_areLeast_12 rfl 0 rfl ?_
        refine r_aload_n C (pc := 13) dX7_areLeast_13 rfl 1 rfl ?_
        obtain ⟨r14, e14, h⟩ := wp_b1 h
        refine b_cSi C (pc := 14) dX7_areLeast_14 (c_X7_tightTwos (xl g) (xG g) a_p1 a_p1_gaps a_p2 c_p1_size c_p1_gaps c_p2 r14 e14) rfl gX7_areLeast_X7_tightTwos ⟨rfl, rfl⟩ 2 hd_X7_tightTwos ⟨Nat.le_of_ble_eq_true rfl, Nat.le_of_ble_eq_true rfl⟩ rfl [0, 1, 2] rfl (srt_nd 0 rfl) (ws' := w_X7_areLeast (xG g) a_p1 a_p1_gaps a_p2 c_p1_size c_p1_gaps c_p2) (Put.m rfl rfl rfl) rfl (rest := [.int (jz c_p1_size)]) rfl (Nat.le_of_ble_eq_true rfl) ⟨Nat.zero_le _, Nat.zero_le _⟩ ?_
        obtain ⟨r17, e17, h⟩ := wp_b1 h
        refine b_cSi C (pc := 17) dX7_areLeast_17 (c_X7_coverAll (xl g) (xG g) c_p1_size r14 r17 e17) rfl gX7_areLeast_X7_coverAll ⟨rfl, rfl⟩ 2 hd_X7_coverAll ⟨Nat.le_of_ble_eq_true rfl, Nat.le_of_ble_eq_true rfl⟩ rfl [] rfl (srt_nd 0 rfl) (ws' := w_X7_areLeast (xG g) a_p1 a_p1_gaps a_p2 c_p1_size c_p1_gaps c_p2) (Put.m rfl rfl rfl) rfl (rest := []) rfl (Nat.le_of_ble_eq_true rfl) ⟨Nat.zero_le _, Nat.zero_le _⟩ ?_
        refine r_if_eq C (pc := 20) 27 dX7_areLeast_20 rfl h (fun c20 h => ?_) (fun c20 h => ?_)
        · refine r_sub [] rfl ?_
          exact hk27 h
        · refine r_iconst C (pc := 23) dX7_areLeast_23 ?_
          refine r_goto C (pc := 24) 28 dX7_areLeast_24 rfl ?_
          refine r_sub [] rfl ?_
          exact hk28 1 h
theorem c_X7_areLeast (l : Launch) (G : gG) (a_p1 : Nat) (a_p1_gaps : Nat) (a_p2 : Nat) (c_p1_size : Int) (c_p1_gaps : Nat → Int) (c_p2 : Nat → Int) (r : Int) (hf : f_X7_areLeast c_p1_size c_p1_gaps c_p2 = some r) : CTi l yX7_areLeast wsX7_areLeast rm_X7_areLeast G (w_X7_areLeast G a_p1 a_p1_gaps a_p2 c_p1_size c_p1_gaps c_p2) [.ref a_p1, .ref a_p2] (jz r) (w_X7_areLeast G a_p1 a_p1_gaps a_p2 c_p1_size c_p1_gaps c_p2) := CTi_of (by decide) rfl rfl (Nat.le_of_ble_eq_true rfl) (fun g C hG hl hF => by
    subst hG
    subst hl
    exact k_X7_areLeast C a_p1 a_p1_gaps a_p2 c_p1_size c_p1_gaps c_p2 (fun x => x = r) (fun r' e => by cases e; exact hF) ⟨_, hf, rfl⟩)

-- TightHulls$Ties.walksFrom(III)I
def f_X7_walksFrom (p1 : Int) (p2 : Int) (p3 : Int) : Option Int := lv ((shlI 1 p3)) (fun x3 => lq2 (fun (n7 : Int → Int → Option Int) (v3_7 : Int) (v4_7 : Int) => if ltI v4_7 10 = true then (lq2 (fun (n17 : Int → Int → Option Int) (v3_17 : Int) (v5_17 : Int) => if ltI v5_17 p1 = true then (bd1 (f_X7_partners p2 v5_17) (fun r26 => jn (fun (v3_48 : Int) => jn (fun (v3_65 : Int) => n17 v3_65 (v5_17 + 1)) (fun (k65 : Int → Option Int) => if eqI (andI (shrI v3_48 (5 + v5_17)) 1) 1 = true then (lv ((orI v3_48 r26)) (fun x64 => k65 x64)) else (k65 v3_48))) (fun (k48 : Int → Option Int) => if eqI (andI (shrI v3_17 v5_17) 1) 1 = true then (lv ((orI v3_17 (shlI r26 5))) (fun x47 => k48 x47)) else (k48 v3_17)))) else (n7 v3_17 (v4_7 + 1))) 300 v3_7 0) else (some v3_7)) 300 x3 0)
abbrev rm_X7_walksFrom : Room := { frames := 1, cells := 0, slots := 0, locals := 21 }
abbrev w_X7_walksFrom (G : gG)  : va_W := []
theorem hd_X7_walksFrom : yX7_walksFrom.cls ≠ "java/lang/invoke/MethodHandle" ∧ yX7_walksFrom.cls ≠ "java/lang/invoke/VarHandle" ∧ (parseMethodDescriptor yX7_walksFrom.desc).map (fun d => d.parameters.length) = some 3 := by decide +kernel
set_option maxRecDepth 100000 in
set_option maxHeartbeats 4000000 in
theorem k_X7_walksFrom {g : XC} (C : XOk g cX7_walksFrom RX7 wsX7_walksFrom rm_X7_walksFrom 7)  (p1 : Int) (p2 : Int) (p3 : Int) (K : Int → Prop) (hK : ∀ (r : Int), K r → (narrow .int (.int (jz r)) = .int (jz r) → FinI g 0 0 (w_X7_walksFrom (xG g)) (jz r))) (h : wp (f_X7_walksFrom p1 p2 p3) K) : WW g 0 0 (w_X7_walksFrom (xG g)) 0 [(0, .int (jz p1)), (1, .int (jz p2)), (2, .int (jz p3))] [] := by
  unfold f_X7_walksFrom at h
  refine r_iconst C (pc := 0) dX7_walksFrom_0 ?_
  refine r_iload_n C (pc := 1) dX7_walksFrom_1 rfl 2 rfl ?_
  refine r_ishl C (pc := 2) dX7_walksFrom_2 ?_
  refine r_let h (fun x3 h => ?_)
  refine r_istore_n C (pc := 3) dX7_walksFrom_3 rfl (by decide) (L' := [(0, .int (jz p1)), (1, .int (jz p2)), (2, .int (jz p3)), (3, .int (jz x3))]) rfl ?_
  refine r_iconst C (pc := 4) dX7_walksFrom_4 ?_
  refine r_istore C (pc := 5) dX7_walksFrom_5 (by decide) (L' := [(0, .int (jz p1)), (1, .int (jz p2)), (2, .int (jz p3)), (3, .int (jz x3)), (4, .int (jz 0))]) rfl ?_
  refine r_sub [0, 1, 3, 4] rfl ?_
  refine lq2_e (fun (v3_7 : Int) (v4_7 : Int) => WW g 0 0 (w_X7_walksFrom (xG g)) 7 [(0, .int (jz p1)), (1, .int (jz p2)), (3, .int (jz v3_7)), (4, .int (jz v4_7))] []) h (fun n7 hn7 v3_7 v4_7 h => ?_)
  refine r_iload C (pc := 7) dX7_walksFrom_7 3 rfl ?_
  refine r_bipush C (pc := 9) dX7_walksFrom_9 rfl ?_
  refine r_icmp_ge C (pc := 11) 77 dX7_walksFrom_11 rfl h (fun c11 h => ?_) (fun c11 h => ?_)
  · refine r_iload_n C (pc := 77) dX7_walksFrom_77 rfl 2 rfl ?_
    exact r_iret C (pc := 78) dX7_walksFrom_78 (hK v3_7 (wp_s h) rfl)
  · refine r_iconst C (pc := 14) dX7_walksFrom_14 ?_
    refine r_istore C (pc := 15) dX7_walksFrom_15 (by decide) (L' := [(0, .int (jz p1)), (1, .int (jz p2)), (3, .int (jz v3_7)), (4, .int (jz v4_7)), (5, .int (jz 0))]) rfl ?_
    refine lq2_e (fun (v3_17 : Int) (v5_17 : Int) => WW g 0 0 (w_X7_walksFrom (xG g)) 17 [(0, .int (jz p1)), (1, .int (jz p2)), (3, .int (jz v3_17)), (4, .int (jz v4_7)), (5, .int (jz v5_17))] []) h (fun n17 hn17 v3_17 v5_17 h => ?_)
    refine r_iload C (pc := 17) dX7_walksFrom_17 4 rfl ?_
    refine r_iload_n C (pc := 19) dX7_walksFrom_19 rfl 0 rfl ?_
    refine r_icmp_ge C (pc := 20) 71 dX7_walksFrom_20 rfl h (fun c20 h => ?_) (fun c20 h => ?_)
    · refine r_iinc C (pc := 71) dX7_walksFrom_71 3 rfl (by decide) (L' := [(0, .int (jz p1)), (1, .int (jz p2)), (3, .int (jz v3_17)), (4, .int (jz (v4_7 + 1))), (5, .int (jz v5_17))]) rfl ?_
      refine r_goto C (pc := 74) 7 dX7_walksFrom_74 rfl ?_
      refine r_sub [0, 1, 2, 3] rfl ?_
      exact hn7 v3_17 (v4_7 + 1) h
    · refine r_iload_n C (pc := 23) dX7_walksFrom_23 rfl 1 rfl ?_
      refine r_iload C (pc := 24) dX7_walksFrom_24 4 rfl ?_
      obtain ⟨r26, e26, h⟩ := wp_b1 h
      refine b_cSi C (pc := 26) dX7_walksFrom_26 (c_X7_partners (xl g) (xG g) p2 v5_17 r26 e26) rfl gX7_walksFrom_X7_partners ⟨rfl, rfl⟩ 2 hd_X7_partners ⟨Nat.le_of_ble_eq_true rfl, Nat.le_of_ble_eq_true rfl⟩ rfl [] rfl (srt_nd 0 rfl) (ws' := w_X7_walksFrom (xG g)) (Put.m rfl rfl rfl) rfl (rest := []) rfl (Nat.le_of_ble_eq_true rfl) ⟨Nat.zero_le _, Nat.zero_le _⟩ ?_
      refine r_istore C (pc := 29) dX7_walksFrom_29 (by decide) (L' := [(0, .int (jz p1)), (1, .int (jz p2)), (3, .int (jz v3_17)), (4, .int (jz v4_7)), (5, .int (jz v5_17)), (6, .int (jz r26))]) rfl ?_
      refine r_iload_n C (pc := 31) dX7_walksFrom_31 rfl 2 rfl ?_
      refine r_iload C (pc := 32) dX7_walksFrom_32 4 rfl ?_
      refine r_ishr C (pc := 34) dX7_walksFrom_34 ?_
      refine r_iconst C (pc := 35) dX7_walksFrom_35 ?_
      refine r_iand C (pc := 36) dX7_walksFrom_36 ?_
      refine r_iconst C (pc := 37) dX7_walksFrom_37 ?_
      refine jn_e (fun (k48 : Int → Option Int) => ∀ (v3_48 : Int), wp (k48 v3_48) K → WW g 0 0 (w_X7_walksFrom (xG g)) 48 [(0, .int (jz p1)), (1, .int (jz p2)), (3, .int (jz v3_48)), (4, .int (jz v4_7)), (5, .int (jz v5_17)), (6, .int (jz r26))] []) h (fun v3_48 h => ?_) (fun k48 hk48 h => ?_)
      · refine r_iload_n C (pc := 48) dX7_walksFrom_48 rfl 2 rfl ?_
        refine r_iconst C (pc := 49) dX7_walksFrom_49 ?_
        refine r_iload C (pc := 50) dX7_walksFrom_50 4 rfl ?_
        refine r_iadd C (pc := 52) dX7_walksFrom_52 ?_
        refine r_ishr C (pc := 53) dX7_walksFrom_53 ?_
        refine r_iconst C (pc := 54) dX7_walksFrom_54 ?_
        refine r_iand C (pc := 55) dX7_walksFrom_55 ?_
        refine r_iconst C (pc := 56) dX7_walksFrom_56 ?_
        refine jn_e (fun (k65 : Int → Option Int) => ∀ (v3_65 : Int), wp (k65 v3_65) K → WW g 0 0 (w_X7_walksFrom (xG g)) 65 [(0, .int (jz p1)), (1, .int (jz p2)), (3, .int (jz v3_65)), (4, .int (jz v4_7)), (5, .int (jz v5_17))] []) h (fun v3_65 h => ?_) (fun k65 hk65 h => ?_)
        · refine r_iinc C (pc := 65) dX7_walksFrom_65 4 rfl (by decide) (L' := [(0, .int (jz p1)), (1, .int (jz p2)), (3, .int (jz v3_65)), (4, .int (jz v4_7)), (5, .int (jz (v5_17 + 1)))]) rfl ?_
          refine r_goto C (pc := 68) 17 dX7_walksFrom_68 rfl ?_
          exact hn17 v3_65 (v5_17 + 1) h
        · refine r_icmp_ne C (pc := 57) 65 dX7_walksFrom_57 rfl h (fun c57 h => ?_) (fun c57 h => ?_)
          · refine r_sub [0, 1, 2, 3, 4] rfl ?_
            exact hk65 v3_48 h
          · refine r_iload_n C (pc := 60) dX7_walksFrom_60 rfl 2 rfl ?_
            refine r_iload C (pc := 61) dX7_walksFrom_61 5 rfl ?_
            refine r_ior C (pc := 63) dX7_walksFrom_63 ?_
            refine r_let h (fun x64 h => ?_)
            refine r_istore_n C (pc := 64) dX7_walksFrom_64 rfl (by decide) (L' := [(0, .int (jz p1)), (1, .int (jz p2)), (3, .int (jz x64)), (4, .int (jz v4_7)), (5, .int (jz v5_17)), (6, .int (jz r26))]) rfl ?_
            refine r_sub [0, 1, 2, 3, 4] rfl ?_
            exact hk65 x64 h
      · refine r_icmp_ne C (pc := 38) 48 dX7_walksFrom_38 rfl h (fun c38 h => ?_) (fun c38 h => ?_)
        · exact hk48 v3_17 h
        · refine r_iload_n C (pc := 41) dX7_walksFrom_41 rfl 2 rfl ?_
          refine r_iload C (pc := 42) dX7_walksFrom_42 5 rfl ?_
          refine r_iconst C (pc := 44) dX7_walksFrom_44 ?_
          refine r_ishl C (pc := 45) dX7_walksFrom_45 ?_
          refine r_ior C (pc := 46) dX7_walksFrom_46 ?_
          refine r_let h (fun x47 h => ?_)
          refine r_istore_n C (pc := 47) dX7_walksFrom_47 rfl (by decide) (L' := [(0, .int (jz p1)), (1, .int (jz p2)), (3, .int (jz x47)), (4, .int (jz v4_7)), (5, .int (jz v5_17)), (6, .int (jz r26))]) rfl ?_
          exact hk48 x47 h
theorem c_X7_walksFrom (l : Launch) (G : gG) (p1 : Int) (p2 : Int) (p3 : Int) (r : Int) (hf : f_X7_walksFrom p1 p2 p3 = some r) : CTi l yX7_walksFrom wsX7_walksFrom rm_X7_walksFrom G (w_X7_walksFrom G) [.int (jz p1), .int (jz p2), .int (jz p3)] (jz r) (w_X7_walksFrom G) := CTi_of (by decide) rfl rfl (Nat.le_of_ble_eq_true rfl) (fun g C hG hl hF => by
    subst hG
    subst hl
    exact k_X7_walksFrom C p1 p2 p3 (fun x => x = r) (fun r' e => by cases e; exact hF) ⟨_, hf, rfl⟩)

-- TightHulls$Ties.depth(II)I
def f_X7_depth (p1 : Int) (p2 : Int) : Option Int := lq2 (fun (n4 : Int → Int → Option Int) (v2_4 : Int) (v3_4 : Int) => if ltI v3_4 p1 = true then (bd1 (f_X7_walksFrom p1 p2 v3_4) (fun r12 => lv ((andI (orI r12 (shrI r12 5)) 31)) (fun x27 => jn (fun (s0_45 : Int) => jn (fun (s0_64 : Int) => jn (fun (s1_82 : Int) => lv ((v2_4 + s1_82)) (fun x83 => n4 x83 (v3_4 + 1))) (fun (k82 : Int → Option Int) => jn (k82 0) (fun (k81 : Option Int) => if eqI s0_45 0 = true then k81 else (if eqI s0_64 0 = true then (k82 1) else k81)))) (fun (k64 : Int → Option Int) => if eqI (andI (shrI r12 (5 + v3_4)) 1) 1 = true then (k64 1) else (k64 0))) (fun (k45 : Int → Option Int) => if eqI (andI x27 ((shlI 1 v3_4) - 1)) 0 = true then (k45 1) else (k45 0))))) else (some v2_4)) 300 0 0
abbrev rm_X7_depth : Room := { frames := 2, cells := 0, slots := 0, locals := 47 }
abbrev w_X7_depth (G : gG)  : va_W := []
theorem hd_X7_depth : yX7_depth.cls ≠ "java/lang/invoke/MethodHandle" ∧ yX7_depth.cls ≠ "java/lang/invoke/VarHandle" ∧ (parseMethodDescriptor yX7_depth.desc).map (fun d => d.parameters.length) = some 2 := by decide +kernel
set_option maxRecDepth 100000 in
set_option maxHeartbeats 4000000 in
theorem k_X7_depth {g : XC} (C : XOk g cX7_depth RX7 wsX7_depth rm_X7_depth 8)  (p1 : Int) (p2 : Int) (K : Int → Prop) (hK : ∀ (r : Int), K r → (narrow .int (.int (jz r)) = .int (jz r) → FinI g 0 0 (w_X7_depth (xG g)) (jz r))) (h : wp (f_X7_depth p1 p2) K) : WW g 0 0 (w_X7_depth (xG g)) 0 [(0, .int (jz p1)), (1, .int (jz p2))] [] := by
  unfold f_X7_depth at h
  refine r_iconst C (pc := 0) dX7_depth_0 ?_
  refine r_istore_n C (pc := 1) dX7_depth_1 rfl (by decide) (L' := [(0, .int (jz p1)), (1, .int (jz p2)), (2, .int (jz 0))]) rfl ?_
  refine r_iconst C (pc := 2) dX7_depth_2 ?_
  refine r_istore_n C (pc := 3) dX7_depth_3 rfl (by decide) (L' := [(0, .int (jz p1)), (1, .int (jz p2)), (2, .int (jz 0)), (3, .int (jz 0))]) rfl ?_
  refine lq2_e (fun (v2_4 : Int) (v3_4 : Int) => WW g 0 0 (w_X7_depth (xG g)) 4 [(0, .int (jz p1)), (1, .int (jz p2)), (2, .int (jz v2_4)), (3, .int (jz v3_4))] []) h (fun n4 hn4 v2_4 v3_4 h => ?_)
  refine r_iload_n C (pc := 4) dX7_depth_4 rfl 3 rfl ?_
  refine r_iload_n C (pc := 5) dX7_depth_5 rfl 0 rfl ?_
  refine r_icmp_ge C (pc := 6) 90 dX7_depth_6 rfl h (fun c6 h => ?_) (fun c6 h => ?_)
  · refine r_iload_n C (pc := 90) dX7_depth_90 rfl 2 rfl ?_
    exact r_iret C (pc := 91) dX7_depth_91 (hK v2_4 (wp_s h) rfl)
  · refine r_iload_n C (pc := 9) dX7_depth_9 rfl 0 rfl ?_
    refine r_iload_n C (pc := 10) dX7_depth_10 rfl 1 rfl ?_
    refine r_iload_n C (pc := 11) dX7_depth_11 rfl 3 rfl ?_
    obtain ⟨r12, e12, h⟩ := wp_b1 h
    refine b_cSi C (pc := 12) dX7_depth_12 (c_X7_walksFrom (xl g) (xG g) p1 p2 v3_4 r12 e12) rfl gX7_depth_X7_walksFrom ⟨rfl, rfl⟩ 3 hd_X7_walksFrom ⟨Nat.le_of_ble_eq_true rfl, Nat.le_of_ble_eq_true rfl⟩ rfl [] rfl (srt_nd 0 rfl) (ws' := w_X7_depth (xG g)) (Put.m rfl rfl rfl) rfl (rest := []) rfl (Nat.le_of_ble_eq_true rfl) ⟨Nat.zero_le _, Nat.zero_le _⟩ ?_
    refine r_istore C (pc := 15) dX7_depth_15 (by decide) (L' := [(0, .int (jz p1)), (1, .int (jz p2)), (2, .int (jz v2_4)), (3, .int (jz v3_4)), (4, .int (jz r12))]) rfl ?_
    refine r_iload C (pc := 17) dX7_depth_17 4 rfl ?_
    refine r_iload C (pc := 19) dX7_depth_19 4 rfl ?_
    refine r_iconst C (pc := 21) dX7_depth_21 ?_
    refine r_ishr C (pc := 22) dX7_depth_22 ?_
    refine r_ior C (pc := 23) dX7_depth_23 ?_
    refine r_bipush C (pc := 24) dX7_depth_24 rfl ?_
    refine r_iand C (pc := 26) dX7_depth_26 ?_
    refine r_let h (fun x27 h => ?_)
    refine r_istore C (pc := 27) dX7_depth_27 (by decide) (L' := [(0, .int (jz p1)), (1, .int (jz p2)), (2, .int (jz v2_4)), (3, .int (jz v3_4)), (4, .int (jz r12)), (5, .int (jz x27))]) rfl ?_
    refine r_iload C (pc := 29) dX7_depth_29 5 rfl ?_
    refine r_iconst C (pc := 31) dX7_depth_31 ?_
    refine r_iload_n C (pc := 32) dX7_depth_32 rfl 3 rfl ?_
    refine r_ishl C (pc := 33) dX7_depth_33 ?_
    refine r_iconst C (pc := 34) dX7_depth_34 ?_
    refine r_isub C (pc := 35) dX7_depth_35 ?_
    refine r_iand C (pc := 36) dX7_depth_36 ?_
    refine jn_e (fun (k45 : Int → Option Int) => ∀ (s0_45 : Int), wp (k45 s0_45) K → WW g 0 0 (w_X7_depth (xG g)) 45 [(0, .int (jz p1)), (1, .int (jz p2)), (2, .int (jz v2_4)), (3, .int (jz v3_4)), (4, .int (jz r12))] [.int (jz s0_45)]) h (fun s0_45 h => ?_) (fun k45 hk45 h => ?_)
    · refine r_istore C (pc := 45) dX7_depth_45 (by decide) (L' := [(0, .int (jz p1)), (1, .int (jz p2)), (2, .int (jz v2_4)), (3, .int (jz v3_4)), (4, .int (jz r12)), (6, .int (jz s0_45))]) rfl ?_
      refine r_iload C (pc := 47) dX7_depth_47 4 rfl ?_
      refine r_iconst C (pc := 49) dX7_depth_49 ?_
      refine r_iload_n C (pc := 50) dX7_depth_50 rfl 3 rfl ?_
      refine r_iadd C (pc := 51) dX7_depth_51 ?_
      refine r_ishr C (pc := 52) dX7_depth_52 ?_
      refine r_iconst C (pc := 53) dX7_depth_53 ?_
      refine r_iand C (pc := 54) dX7_depth_54 ?_
      refine r_iconst C (pc := 55) dX7_depth_55 ?_
      refine jn_e (fun (k64 : Int → Option Int) => ∀ (s0_64 : Int), wp (k64 s0_64) K → WW g 0 0 (w_X7_depth (xG g)) 64 [(0, .int (jz p1)), (1, .int (jz p2)), (2, .int (jz v2_4)), (3, .int (jz v3_4)), (6, .int (jz s0_45))] [.int (jz s0_64)]) h (fun s0_64 h => ?_) (fun k64 hk64 h => ?_)
      · refine r_istore C (pc := 64) dX7_depth_64 (by decide) (L' := [(0, .int (jz p1)), (1, .int (jz p2)), (2, .int (jz v2_4)), (3, .int (jz v3_4)), (6, .int (jz s0_45)), (7, .int (jz s0_64))]) rfl ?_
        refine r_iload_n C (pc := 66) dX7_depth_66 rfl 2 rfl ?_
        refine r_iload C (pc := 67) dX7_depth_67 4 rfl ?_
        refine jn_e (fun (k82 : Int → Option Int) => ∀ (s1_82 : Int), wp (k82 s1_82) K → WW g 0 0 (w_X7_depth (xG g)) 82 [(0, .int (jz p1)), (1, .int (jz p2)), (3, .int (jz v3_4))] [.int (jz s1_82), .int (jz v2_4)]) h (fun s1_82 h => ?_) (fun k82 hk82 h => ?_)
        · refine r_iadd C (pc := 82) dX7_depth_82 ?_
          refine r_let h (fun x83 h => ?_)
          refine r_istore_n C (pc := 83) dX7_depth_83 rfl (by decide) (L' := [(0, .int (jz p1)), (1, .int (jz p2)), (2, .int (jz x83)), (3, .int (jz v3_4))]) rfl ?_
          refine r_iinc C (pc := 84) dX7_depth_84 3 rfl (by decide) (L' := [(0, .int (jz p1)), (1, .int (jz p2)), (2, .int (jz x83)), (3, .int (jz (v3_4 + 1)))]) rfl ?_
          refine r_goto C (pc := 87) 4 dX7_depth_87 rfl ?_
          exact hn4 x83 (v3_4 + 1) h
        · refine jn_e (fun (k81 : Option Int) => wp (k81) K → WW g 0 0 (w_X7_depth (xG g)) 81 [(0, .int (jz p1)), (1, .int (jz p2)), (3, .int (jz v3_4))] [.int (jz v2_4)]) h (fun h => ?_) (fun k81 hk81 h => ?_)
          · refine r_iconst C (pc := 81) dX7_depth_81 ?_
            exact hk82 0 h
          · refine r_if_eq C (pc := 69) 81 dX7_depth_69 rfl h (fun c69 h => ?_) (fun c69 h => ?_)
            · refine r_sub [0, 1, 3] rfl ?_
              exact hk81 h
            · refine r_iload C (pc := 72) dX7_depth_72 5 rfl ?_
              refine r_if_ne C (pc := 74) 81 dX7_depth_74 rfl h (fun c74 h => ?_) (fun c74 h => ?_)
              · refine r_sub [0, 1, 3] rfl ?_
                exact hk81 h
              · refine r_iconst C (pc := 77) dX7_depth_77 ?_
                refine r_goto C (pc := 78) 82 dX7_depth_78 rfl ?_
                refine r_sub [0, 1, 3] rfl ?_
                exact hk82 1 h
      · refine r_icmp_ne C (pc := 56) 63 dX7_depth_56 rfl h (fun c56 h => ?_) (fun c56 h => ?_)
        · refine r_iconst C (pc := 63) dX7_depth_63 ?_
          refine r_sub [0, 1, 2, 3, 5] rfl ?_
          exact hk64 0 h
        · refine r_iconst C (pc := 59) dX7_depth_59 ?_
          refine r_goto C (pc := 60) 64 dX7_depth_60 rfl ?_
          refine r_sub [0, 1, 2, 3, 5] rfl ?_
          exact hk64 1 h
    · refine r_if_ne C (pc := 37) 44 dX7_depth_37 rfl h (fun c37 h => ?_) (fun c37 h => ?_)
      · refine r_iconst C (pc := 44) dX7_depth_44 ?_
        refine r_sub [0, 1, 2, 3, 4] rfl ?_
        exact hk45 0 h
      · refine r_iconst C (pc := 40) dX7_depth_40 ?_
        refine r_goto C (pc := 41) 45 dX7_depth_41 rfl ?_
        refine r_sub [0, 1, 2, 3, 4] rfl ?_
        exact hk45 1 h
theorem c_X7_depth (l : Launch) (G : gG) (p1 : Int) (p2 : Int) (r : Int) (hf : f_X7_depth p1 p2 = some r) : CTi l yX7_depth wsX7_depth rm_X7_depth G (w_X7_depth G) [.int (jz p1), .int (jz p2)] (jz r) (w_X7_depth G) := CTi_of (by decide) rfl rfl (Nat.le_of_ble_eq_true rfl) (fun g C hG hl hF => by
    subst hG
    subst hl
    exact k_X7_depth C p1 p2 (fun x => x = r) (fun r' e => by cases e; exact hF) ⟨_, hf, rfl⟩)
