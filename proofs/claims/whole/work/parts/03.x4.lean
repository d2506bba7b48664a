-- TightHulls$Table.gap(II)I
def f_X4_gap (p1 : Int) (p2 : Int) (c_this_size : Int) (c_this_gaps : Nat → Int) : Option Int := jn (fun (s0_29 : Int) => jn (fun (s0_48 : Int) => some s0_48) (fun (k48 : Int → Option Int) => if eqI s0_29 0 = true then (k48 0) else (grd (iin ((5 * p1) + p2) 25) (k48 (c_this_gaps (ix ((5 * p1) + p2))))))) (fun (k29 : Int → Option Int) => jn (k29 0) (fun (k28 : Option Int) => if ltI p1 0 = true then k28 else (if ltI p1 c_this_size = true then (if ltI p2 0 = true then k28 else (if ltI p2 c_this_size = true then (k29 1) else k28)) else k28)))
abbrev rm_X4_gap : Room := { frames := 0, cells := 0, slots := 0, locals := 0 }
abbrev w_X4_gap (G : gG) (a_this : Nat) (a_this_gaps : Nat) (c_this_size : Int) (c_this_gaps : Nat → Int) : va_W := [(a_this, .inr (4, [.int (jz c_this_size), .ref a_this_gaps])), (a_this_gaps, aI G 25 c_this_gaps)]
theorem hd_X4_gap : yX4_gap.cls = RX4 ∧ yX4_gap.cls ≠ "java/lang/invoke/MethodHandle" ∧ yX4_gap.cls ≠ "java/lang/invoke/VarHandle" ∧ (parseMethodDescriptor yX4_gap.desc).map (fun d => d.parameters.length) = some 2 := by decide +kernel
theorem in_X4_gap_X4 : ∀ w ∈ u_ws RX4 TX4 2, w ∈ wsX4_gap := fun w h => List.mem_cons_of_mem _ (List.mem_append_right _ (h))
theorem gf_X4_gap_9 : GF wsX4_gap RX4 9 4 1 := ⟨RX4, TX4, 2, rfl, in_X4_gap_X4, by decide, List.mem_of_getElem? (i := 2) rfl⟩
theorem gf_X4_gap_28 : GF wsX4_gap RX4 28 4 0 := ⟨RX4, TX4, 2, rfl, in_X4_gap_X4, by decide, List.mem_of_getElem? (i := 1) rfl⟩
set_option maxRecDepth 100000 in
set_option maxHeartbeats 4000000 in
theorem k_X4_gap {g : XC} (C : XOk g cX4_gap RX4 wsX4_gap rm_X4_gap 4) (a_this : Nat) (a_this_gaps : Nat) (c_this_size : Int) (c_this_gaps : Nat → Int) (p1 : Int) (p2 : Int) (K : Int → Prop) (hK : ∀ (r : Int), K r → (narrow .int (.int (jz r)) = .int (jz r) → FinI g 0 0 (w_X4_gap (xG g) a_this a_this_gaps c_this_size c_this_gaps) (jz r))) (h : wp (f_X4_gap p1 p2 c_this_size c_this_gaps) K) : WW g 0 0 (w_X4_gap (xG g) a_this a_this_gaps c_this_size c_this_gaps) 0 [(0, .ref a_this), (1, .int (jz p1)), (2, .int (jz p2))] [] := by
  unfold f_X4_gap at h
  refine r_iload_n C (pc := 0) dX4_gap_0 rfl 1 rfl ?_
  refine jn_e (fun (k29 : Int → Option Int) => ∀ (s0_29 : Int), wp (k29 s0_29) K → WW g 0 0 (w_X4_gap (xG g) a_this a_this_gaps c_this_size c_this_gaps) 29 [(0, .ref a_this), (1, .int (jz p1)), (2, .int (jz p2))] [.int (jz s0_29)]) h (fun s0_29 h => ?_) (fun k29 hk29 h => ?_)
  · refine r_istore_n C (pc := 29) dX4_gap_29 rfl (by decide) (L' := [(0, .ref a_this), (1, .int (jz p1)), (2, .int (jz p2)), (3, .int (jz s0_29))]) rfl ?_
    refine r_iload_n C (pc := 30) dX4_gap_30 rfl 3 rfl ?_
    refine jn_e (fun (k48 : Int → Option Int) => ∀ (s0_48 : Int), wp (k48 s0_48) K → WW g 0 0 (w_X4_gap (xG g) a_this a_this_gaps c_this_size c_this_gaps) 48 [] [.int (jz s0_48)]) h (fun s0_48 h => ?_) (fun k48 hk48 h => ?_)
    · exact r_iret C (pc := 48) dX4_gap_48 (hK s0_48 (wp_s h) rfl)
    · refine r_if_eq C (pc := 31) 47 dX4_gap_31 rfl h (fun c31 h => ?_) (fun c31 h => ?_)
      · refine r_iconst C (pc := 47) dX4_gap_47 ?_
        refine r_sub [] rfl ?_
        exact hk48 0 h
      · refine r_aload_n C (pc := 34) dX4_gap_34 rfl 0 rfl ?_
        refine r_get C (pc := 35) dX4_gap_35 gf_X4_gap_9 0 rfl rfl ?_
        refine r_iconst C (pc := 38) dX4_gap_38 ?_
        refine r_iload_n C (pc := 39) dX4_gap_39 rfl 1 rfl ?_
        refine r_imul C (pc := 40) dX4_gap_40 ?_
        refine r_iload_n C (pc := 41) dX4_gap_41 rfl 2 rfl ?_
        refine r_iadd C (pc := 42) dX4_gap_42 ?_
        refine r_iald C (pc := 43) dX4_gap_43 h 1 rfl (fun h => ?_)
        refine r_goto C (pc := 44) 48 dX4_gap_44 rfl ?_
        refine r_sub [] rfl ?_
        exact hk48 (c_this_gaps (ix ((5 * p1) + p2))) h
  · refine jn_e (fun (k28 : Option Int) => wp (k28) K → WW g 0 0 (w_X4_gap (xG g) a_this a_this_gaps c_this_size c_this_gaps) 28 [(0, .ref a_this), (1, .int (jz p1)), (2, .int (jz p2))] []) h (fun h => ?_) (fun k28 hk28 h => ?_)
    · refine r_iconst C (pc := 28) dX4_gap_28 ?_
      exact hk29 0 h
    · refine r_if_lt C (pc := 1) 28 dX4_gap_1 rfl h (fun c1 h => ?_) (fun c1 h => ?_)
      · exact hk28 h
      · refine r_iload_n C (pc := 4) dX4_gap_4 rfl 1 rfl ?_
        refine r_aload_n C (pc := 5) dX4_gap_5 rfl 0 rfl ?_
        refine r_get C (pc := 6) dX4_gap_6 gf_X4_gap_28 0 rfl rfl ?_
        refine r_icmp_ge C (pc := 9) 28 dX4_gap_9 rfl h (fun c9 h => ?_) (fun c9 h => ?_)
        · exact hk28 h
        · refine r_iload_n C (pc := 12) dX4_gap_12 rfl 2 rfl ?_
          refine r_if_lt C (pc := 13) 28 dX4_gap_13 rfl h (fun c13 h => ?_) (fun c13 h => ?_)
          · exact hk28 h
          · refine r_iload_n C (pc := 16) dX4_gap_16 rfl 2 rfl ?_
            refine r_aload_n C (pc := 17) dX4_gap_17 rfl 0 rfl ?_
            refine r_get C (pc := 18) dX4_gap_18 gf_X4_gap_28 0 rfl rfl ?_
            refine r_icmp_ge C (pc := 21) 28 dX4_gap_21 rfl h (fun c21 h => ?_) (fun c21 h => ?_)
            · exact hk28 h
            · refine r_iconst C (pc := 24) dX4_gap_24 ?_
              refine r_goto C (pc := 25) 29 dX4_gap_25 rfl ?_
              exact hk29 1 h
theorem c_X4_gap (l : Launch) (G : gG) (a_this : Nat) (a_this_gaps : Nat) (c_this_size : Int) (c_this_gaps : Nat → Int) (p1 : Int) (p2 : Int) (r : Int) (hf : f_X4_gap p1 p2 c_this_size c_this_gaps = some r) : CTi l yX4_gap wsX4_gap rm_X4_gap G (w_X4_gap G a_this a_this_gaps c_this_size c_this_gaps) [.ref a_this, .int (jz p1), .int (jz p2)] (jz r) (w_X4_gap G a_this a_this_gaps c_this_size c_this_gaps) := CTi_of (by decide) rfl rfl (Nat.le_of_ble_eq_true rfl) (fun g C hG hl hF => by
    subst hG
    subst hl
    exact k_X4_gap C a_this a_this_gaps c_this_size c_this_gaps p1 p2 (fun x => x = r) (fun r' e => by cases e; exact hF) ⟨_, hf, rfl⟩)

-- TightHulls$Table.otherwiseThan(LTightHulls$Table;)I
def f_X4_otherwiseThan (c_this_size : Int) (c_this_gaps : Nat → Int) (c_p1_size : Int) (c_p1_gaps : Nat → Int) : Option Int := lq2 (fun (n4 : Int → Int → Option Int) (v2_4 : Int) (v3_4 : Int) => if ltI v3_4 c_this_size = true then (lv ((v3_4 + 1)) (fun x15 => lq2 (fun (n17 : Int → Int → Option Int) (v2_17 : Int) (v4_17 : Int) => if ltI v4_17 c_this_size = true then (bd1 (f_X4_gap v3_4 v4_17 c_this_size c_this_gaps) (fun r31 => bd1 (f_X4_gap v3_4 v4_17 c_p1_size c_p1_gaps) (fun r38 => jn (fun (s1_49 : Int) => lv ((v2_17 + s1_49)) (fun x50 => n17 x50 (v4_17 + 1))) (fun (k49 : Int → Option Int) => if eqI r31 r38 = true then (k49 0) else (k49 1))))) else (n4 v2_17 (v3_4 + 1))) 300 v2_4 x15)) else (some v2_4)) 300 0 0
abbrev rm_X4_otherwiseThan : Room := { frames := 1, cells := 0, slots := 0, locals := 23 }
abbrev w_X4_otherwiseThan (G : gG) (a_this : Nat) (a_this_gaps : Nat) (a_p1 : Nat) (a_p1_gaps : Nat) (c_this_size : Int) (c_this_gaps : Nat → Int) (c_p1_size : Int) (c_p1_gaps : Nat → Int) : va_W := [(a_this, .inr (4, [.int (jz c_this_size), .ref a_this_gaps])), (a_this_gaps, aI G 25 c_this_gaps), (a_p1, .inr (4, [.int (jz c_p1_size), .ref a_p1_gaps])), (a_p1_gaps, aI G 25 c_p1_gaps)]
theorem hd_X4_otherwiseThan : yX4_otherwiseThan.cls = RX4 ∧ yX4_otherwiseThan.cls ≠ "java/lang/invoke/MethodHandle" ∧ yX4_otherwiseThan.cls ≠ "java/lang/invoke/VarHandle" ∧ (parseMethodDescriptor yX4_otherwiseThan.desc).map (fun d => d.parameters.length) = some 1 := by decide +kernel
theorem in_X4_otherwiseThan_X4 : ∀ w ∈ u_ws RX4 TX4 2, w ∈ wsX4_otherwiseThan := fun w h => List.mem_cons_of_mem _ (List.mem_append_right _ (h))
theorem gf_X4_otherwiseThan_28 : GF wsX4_otherwiseThan RX4 28 4 0 := ⟨RX4, TX4, 2, rfl, in_X4_otherwiseThan_X4, by decide, List.mem_of_getElem? (i := 1) rfl⟩
set_option maxRecDepth 100000 in
set_option maxHeartbeats 4000000 in
theorem k_X4_otherwiseThan {g : XC} (C : XOk g cX4_otherwiseThan RX4 wsX4_otherwiseThan rm_X4_otherwiseThan 5) (a_this : Nat) (a_this_gaps : Nat) (a_p1 : Nat) (a_p1_gaps : Nat) (c_this_size : Int) (c_this_gaps : Nat → Int) (c_p1_size : Int) (c_p1_gaps : Nat → Int)  (K : Int → Prop) (hK : ∀ (r : Int), K r → (narrow .int (.int (jz r)) = .int (jz r) → FinI g 0 0 (w_X4_otherwiseThan (xG g) a_this a_this_gaps a_p1 a_p1_gaps c_this_size c_this_gaps c_p1_size c_p1_gaps) (jz r))) (h : wp (f_X4_otherwiseThan c_this_size c_this_gaps c_p1_size c_p1_gaps) K) : WW g 0 0 (w_X4_otherwiseThan (xG g) a_this a_this_gaps a_p1 a_p1_gaps c_this_size c_this_gaps c_p1_size c_p1_gaps) 0 [(0, .ref a_this), (1, .ref a_p1)] [] := by
  unfold f_X4_otherwiseThan at h
  refine r_iconst C (pc := 0) dX4_otherwiseThan_0 ?_
  refine r_istore_n C (pc := 1) dX4_otherwiseThan_1 rfl (by decide) (L' := [(0, .ref a_this), (1, .ref a_p1), (2, .int (jz 0))]) rfl ?_
  refine r_iconst C (pc := 2) dX4_otherwiseThan_2 ?_
  refine r_istore_n C (pc := 3) dX4_otherwiseThan_3 rfl (by decide) (L' := [(0, .ref a_this), (1, .ref a_p1), (2, .int (jz 0)), (3, .int (jz 0))]) rfl ?_
  refine lq2_e (fun (v2_4 : Int) (v3_4 : Int) => WW g 0 0 (w_X4_otherwiseThan (xG g) a_this a_this_gaps a_p1 a_p1_gaps c_this_size c_this_gaps c_p1_size c_p1_gaps) 4 [(0, .ref a_this), (1, .ref a_p1), (2, .int (jz v2_4)), (3, .int (jz v3_4))] []) h (fun n4 hn4 v2_4 v3_4 h => ?_)
  refine r_iload_n C (pc := 4) dX4_otherwiseThan_4 rfl 3 rfl ?_
  refine r_aload_n C (pc := 5) dX4_otherwiseThan_5 rfl 0 rfl ?_
  refine r_get C (pc := 6) dX4_otherwiseThan_6 gf_X4_otherwiseThan_28 0 rfl rfl ?_
  refine r_icmp_ge C (pc := 9) 63 dX4_otherwiseThan_9 rfl h (fun c9 h => ?_) (fun c9 h => ?_)
  · refine r_iload_n C (pc := 63) dX4_otherwiseThan_63 rfl 2 rfl ?_
    exact r_iret C (pc := 64) dX4_otherwiseThan_64 (hK v2_4 (wp_s h) rfl)
  · refine r_iload_n C (pc := 12) dX4_otherwiseThan_12 rfl 3 rfl ?_
    refine r_iconst C (pc := 13) dX4_otherwiseThan_13 ?_
    refine r_iadd C (pc := 14) dX4_otherwiseThan_14 ?_
    refine r_let h (fun x15 h => ?_)
    refine r_istore C (pc := 15) dX4_otherwiseThan_15 (by decide) (L' := [(0, .ref a_this), (1, .ref a_p1), (2, .int (jz v2_4)), (3, .int (jz v3_4)), (4, .int (jz x15))]) rfl ?_
    refine lq2_e (fun (v2_17 : Int) (v4_17 : Int) => WW g 0 0 (w_X4_otherwiseThan (xG g) a_this a_this_gaps a_p1 a_p1_gaps c_this_size c_this_gaps c_p1_size c_p1_gaps) 17 [(0, .ref a_this), (1, .ref a_p1), (2, .int (jz v2_17)), (3, .int (jz v3_4)), (4, .int (jz v4_17))] []) h (fun n17 hn17 v2_17 v4_17 h => ?_)
    refine r_iload C (pc := 17) dX4_otherwiseThan_17 4 rfl ?_
    refine r_aload_n C (pc := 19) dX4_otherwiseThan_19 rfl 0 rfl ?_
    refine r_get C (pc := 20) dX4_otherwiseThan_20 gf_X4_otherwiseThan_28 0 rfl rfl ?_
    refine r_icmp_ge C (pc := 23) 57 dX4_otherwiseThan_23 rfl h (fun c23 h => ?_) (fun c23 h => ?_)
    · refine r_iinc C (pc := 57) dX4_otherwiseThan_57 3 rfl (by decide) (L' := [(0, .ref a_this), (1, .ref a_p1), (2, .int (jz v2_17)), (3, .int (jz (v3_4 + 1))), (4, .int (jz v4_17))]) rfl ?_
      refine r_goto C (pc := 60) 4 dX4_otherwiseThan_60 rfl ?_
      refine r_sub [0, 1, 2, 3] rfl ?_
      exact hn4 v2_17 (v3_4 + 1) h
    · refine r_iload_n C (pc := 26) dX4_otherwiseThan_26 rfl 2 rfl ?_
      refine r_aload_n C (pc := 27) dX4_otherwiseThan_27 rfl 0 rfl ?_
      refine r_iload_n C (pc := 28) dX4_otherwiseThan_28 rfl 3 rfl ?_
      refine r_iload C (pc := 29) dX4_otherwiseThan_29 4 rfl ?_
      obtain ⟨r31, e31, h⟩ := wp_b1 h
      refine b_cVi C (pc := 31) dX4_otherwiseThan_31 (c_X4_gap (xl g) (xG g) a_this a_this_gaps c_this_size c_this_gaps v3_4 v4_17 r31 e31) rfl gX4_otherwiseThan_X4_gap ⟨rfl, rfl⟩ 2 hd_X4_gap ⟨Nat.le_of_ble_eq_true rfl, Nat.le_of_ble_eq_true rfl⟩ rfl 0 rfl rfl rfl [0, 1] rfl (srt_nd 0 rfl) (ws' := w_X4_otherwiseThan (xG g) a_this a_this_gaps a_p1 a_p1_gaps c_this_size c_this_gaps c_p1_size c_p1_gaps) (Put.m rfl rfl rfl) rfl (rest := [.int (jz v2_17)]) rfl (Nat.le_of_ble_eq_true rfl) ⟨Nat.zero_le _, Nat.zero_le _⟩ ?_
      refine r_aload_n C (pc := 34) dX4_otherwiseThan_34 rfl 1 rfl ?_
      refine r_iload_n C (pc := 35) dX4_otherwiseThan_35 rfl 3 rfl ?_
      refine r_iload C (pc := 36) dX4_otherwiseThan_36 4 rfl ?_
      obtain ⟨r38, e38, h⟩ := wp_b1 h
      refine b_cVi C (pc := 38) dX4_otherwiseThan_38 (c_X4_gap (xl g) (xG g) a_p1 a_p1_gaps c_p1_size c_p1_gaps v3_4 v4_17 r38 e38) rfl gX4_otherwiseThan_X4_gap ⟨rfl, rfl⟩ 2 hd_X4_gap ⟨Nat.le_of_ble_eq_true rfl, Nat.le_of_ble_eq_true rfl⟩ rfl 2 rfl rfl rfl [2, 3] rfl (srt_nd 0 rfl) (ws' := w_X4_otherwiseThan (xG g) a_this a_this_gaps a_p1 a_p1_gaps c_this_size c_this_gaps c_p1_size c_p1_gaps) (Put.m rfl rfl rfl) rfl (rest := [.int (jz r31), .int (jz v2_17)]) rfl (Nat.le_of_ble_eq_true rfl) ⟨Nat.zero_le _, Nat.zero_le _⟩ ?_
      refine jn_e (fun (k49 : Int → Option Int) => ∀ (s1_49 : Int), wp (k49 s1_49) K → WW g 0 0 (w_X4_otherwiseThan (xG g) a_this a_this_gaps a_p1 a_p1_gaps c_this_size c_this_gaps c_p1_size c_p1_gaps) 49 [(0, .ref a_this), (1, .ref a_p1), (3, .int (jz v3_4)), (4, .int (jz v4_17))] [.int (jz s1_49), .int (jz v2_17)]) h (fun s1_49 h => ?_) (fun k49 hk49 h => ?_)
      · refine r_iadd C (pc := 49) dX4_otherwiseThan_49 ?_
        refine r_let h (fun x50 h => ?_)
        refine r_istore_n C (pc := 50) dX4_otherwiseThan_50 rfl (by decide) (L' := [(0, .ref a_this), (1, .ref a_p1), (2, .int (jz x50)), (3, .int (jz v3_4)), (4, .int (jz v4_17))]) rfl ?_
        refine r_iinc C (pc := 51) dX4_otherwiseThan_51 4 rfl (by decide) (L' := [(0, .ref a_this), (1, .ref a_p1), (2, .int (jz x50)), (3, .int (jz v3_4)), (4, .int (jz (v4_17 + 1)))]) rfl ?_
        refine r_goto C (pc := 54) 17 dX4_otherwiseThan_54 rfl ?_
        exact hn17 x50 (v4_17 + 1) h
      · refine r_icmp_eq C (pc := 41) 48 dX4_otherwiseThan_41 rfl h (fun c41 h => ?_) (fun c41 h => ?_)
        · refine r_iconst C (pc := 48) dX4_otherwiseThan_48 ?_
          refine r_sub [0, 1, 3, 4] rfl ?_
          exact hk49 0 h
        · refine r_iconst C (pc := 44) dX4_otherwiseThan_44 ?_
          refine r_goto C (pc := 45) 49 dX4_otherwiseThan_45 rfl ?_
          refine r_sub [0, 1, 3, 4] rfl ?_
          exact hk49 1 h
theorem c_X4_otherwiseThan (l : Launch) (G : gG) (a_this : Nat) (a_this_gaps : Nat) (a_p1 : Nat) (a_p1_gaps : Nat) (c_this_size : Int) (c_this_gaps : Nat → Int) (c_p1_size : Int) (c_p1_gaps : Nat → Int) (r : Int) (hf : f_X4_otherwiseThan c_this_size c_this_gaps c_p1_size c_p1_gaps = some r) : CTi l yX4_otherwiseThan wsX4_otherwiseThan rm_X4_otherwiseThan G (w_X4_otherwiseThan G a_this a_this_gaps a_p1 a_p1_gaps c_this_size c_this_gaps c_p1_size c_p1_gaps) [.ref a_this, .ref a_p1] (jz r) (w_X4_otherwiseThan G a_this a_this_gaps a_p1 a_p1_gaps c_this_size c_this_gaps c_p1_size c_p1_gaps) := CTi_of (by decide) rfl rfl (Nat.le_of_ble_eq_true rfl) (fun g C hG hl hF => by
    subst hG
    subst hl
    exact k_X4_otherwiseThan C a_this a_this_gaps a_p1 a_p1_gaps c_this_size c_this_gaps c_p1_size c_p1_gaps (fun x => x = r) (fun r' e => by cases e; exact hF) ⟨_, hf, rfl⟩)

-- TightHulls$Table.isLike(LTightHulls$Table;)Z
def f_X4_isLike (c_this_size : Int) (c_this_gaps : Nat → Int) (c_p1_size : Int) (c_p1_gaps : Nat → Int) : Option Int := jn (fun (s0_24 : Int) => grd (isB s0_24) (some s0_24)) (fun (k24 : Int → Option Int) => jn (k24 0) (fun (k23 : Option Int) => if eqI c_this_size c_p1_size = true then (bd1 (f_X4_otherwiseThan c_this_size c_this_gaps c_p1_size c_p1_gaps) (fun r13 => if eqI r13 0 = true then (k24 1) else k23)) else k23))
abbrev rm_X4_isLike : Room := { frames := 2, cells := 0, slots := 0, locals := 47 }
abbrev w_X4_isLike (G : gG) (a_this : Nat) (a_this_gaps : Nat) (a_p1 : Nat) (a_p1_gaps : Nat) (c_this_size : Int) (c_this_gaps : Nat → Int) (c_p1_size : Int) (c_p1_gaps : Nat → Int) : va_W := [(a_this, .inr (4, [.int (jz c_this_size), .ref a_this_gaps])), (a_this_gaps, aI G 25 c_this_gaps), (a_p1, .inr (4, [.int (jz c_p1_size), .ref a_p1_gaps])), (a_p1_gaps, aI G 25 c_p1_gaps)]
theorem hd_X4_isLike : yX4_isLike.cls = RX4 ∧ yX4_isLike.cls ≠ "java/lang/invoke/MethodHandle" ∧ yX4_isLike.cls ≠ "java/lang/invoke/VarHandle" ∧ (parseMethodDescriptor yX4_isLike.desc).map (fun d => d.parameters.length) = some 1 := by decide +kernel
theorem in_X4_isLike_X4 : ∀ w ∈ u_ws RX4 TX4 2, w ∈ wsX4_isLike := fun w h => List.mem_cons_of_mem _ (List.mem_append_right _ (h))
theorem gf_X4_isLike_28 : GF wsX4_isLike RX4 28 4 0 := ⟨RX4, TX4, 2, rfl, in_X4_isLike_X4, by decide, List.mem_of_getElem? (i := 1) rfl⟩
set_option maxRecDepth 100000 in
set_option maxHeartbeats 4000000 in
theorem k_X4_isLike {g : XC} (C : XOk g cX4_isLike RX4 wsX4_isLike rm_X4_isLike 2) (a_this : Nat) (a_this_gaps : Nat) (a_p1 : Nat) (a_p1_gaps : Nat) (c_this_size : Int) (c_this_gaps : Nat → Int) (c_p1_size : Int) (c_p1_gaps : Nat → Int)  (K : Int → Prop) (hK : ∀ (r : Int), K r → (narrow .boolean (.int (jz r)) = .int (jz r) → FinI g 0 0 (w_X4_isLike (xG g) a_this a_this_gaps a_p1 a_p1_gaps c_this_size c_this_gaps c_p1_size c_p1_gaps) (jz r))) (h : wp (f_X4_isLike c_this_size c_this_gaps c_p1_size c_p1_gaps) K) : WW g 0 0 (w_X4_isLike (xG g) a_this a_this_gaps a_p1 a_p1_gaps c_this_size c_this_gaps c_p1_size c_p1_gaps) 0 [(0, .ref a_this), (1, .ref a_p1)] [] := by
  unfold f_X4_isLike at h
  refine r_aload_n C (pc := 0) dX4_isLike_0 rfl 0 rfl ?_
  refine r_get C (pc := 1) dX4_isLike_1 gf_X4_isLike_28 0 rfl rfl ?_
  refine r_aload_n C (pc := 4) dX4_isLike_4 rfl 1 rfl ?_
  refine r_get C (pc := 5) dX4_isLike_5 gf_X4_isLike_28 2 rfl rfl ?_
  refine jn_e (fun (k24 : Int → Option Int) => ∀ (s0_24 : Int), wp (k24 s0_24) K → WW g 0 0 (w_X4_isLike (xG g) a_this a_this_gaps a_p1 a_p1_gaps c_this_size c_this_gaps c_p1_size c_p1_gaps) 24 [] [.int (jz s0_24)]) h (fun s0_24 h => ?_) (fun k24 hk24 h => ?_)
  · exact r_iret C (pc := 24) dX4_isLike_24 (hK s0_24 (wp_s (wp_g h).2) (nB (wp_g h).1).1)
  · refine jn_e (fun (k23 : Option Int) => wp (k23) K → WW g 0 0 (w_X4_isLike (xG g) a_this a_this_gaps a_p1 a_p1_gaps c_this_size c_this_gaps c_p1_size c_p1_gaps) 23 [] []) h (fun h => ?_) (fun k23 hk23 h => ?_)
    · refine r_iconst C (pc := 23) dX4_isLike_23 ?_
      exact hk24 0 h
    · refine r_icmp_ne C (pc := 8) 23 dX4_isLike_8 rfl h (fun c8 h => ?_) (fun c8 h => ?_)
      · refine r_sub [] rfl ?_
        exact hk23 h
      · refine r_aload_n C (pc := 11) dX4_isLike_11 rfl 0 rfl ?_
        refine r_aload_n C (pc := 12) dX4_isLike_12 rfl 1 rfl ?_
        obtain ⟨r13, e13, h⟩ := wp_b1 h
        refine b_cVi C (pc := 13) dX4_isLike_13 (c_X4_otherwiseThan (xl g) (xG g) a_this a_this_gaps a_p1 a_p1_gaps c_this_size c_this_gaps c_p1_size c_p1_gaps r13 e13) rfl gX4_isLike_X4_otherwiseThan ⟨rfl, rfl⟩ 1 hd_X4_otherwiseThan ⟨Nat.le_of_ble_eq_true rfl, Nat.le_of_ble_eq_true rfl⟩ rfl 0 rfl rfl rfl [0, 1, 2, 3] rfl (srt_nd 0 rfl) (ws' := w_X4_isLike (xG g) a_this a_this_gaps a_p1 a_p1_gaps c_this_size c_this_gaps c_p1_size c_p1_gaps) (Put.m rfl rfl rfl) rfl (rest := []) rfl (Nat.le_of_ble_eq_true rfl) ⟨Nat.zero_le _, Nat.zero_le _⟩ ?_
        refine r_if_ne C (pc := 16) 23 dX4_isLike_16 rfl h (fun c16 h => ?_) (fun c16 h => ?_)
        · refine r_sub [] rfl ?_
          exact hk23 h
        · refine r_iconst C (pc := 19) dX4_isLike_19 ?_
          refine r_goto C (pc := 20) 24 dX4_isLike_20 rfl ?_
          refine r_sub [] rfl ?_
          exact hk24 1 h
theorem c_X4_isLike (l : Launch) (G : gG) (a_this : Nat) (a_this_gaps : Nat) (a_p1 : Nat) (a_p1_gaps : Nat) (c_this_size : Int) (c_this_gaps : Nat → Int) (c_p1_size : Int) (c_p1_gaps : Nat → Int) (r : Int) (hf : f_X4_isLike c_this_size c_this_gaps c_p1_size c_p1_gaps = some r) : CTi l yX4_isLike wsX4_isLike rm_X4_isLike G (w_X4_isLike G a_this a_this_gaps a_p1 a_p1_gaps c_this_size c_this_gaps c_p1_size c_p1_gaps) [.ref a_this, .ref a_p1] (jz r) (w_X4_isLike G a_this a_this_gaps a_p1 a_p1_gaps c_this_size c_this_gaps c_p1_size c_p1_gaps) := CTi_of (by decide) rfl rfl (Nat.le_of_ble_eq_true rfl) (fun g C hG hl hF => by
    subst hG
    subst hl
    exact k_X4_isLike C a_this a_this_gaps a_p1 a_p1_gaps c_this_size c_this_gaps c_p1_size c_p1_gaps (fun x => x = r) (fun r' e => by cases e; exact hF) ⟨_, hf, rfl⟩)

-- TightHulls$Table.become(LTightHulls$Table;)V
def f_X4_become (c_this_size : Int) (c_this_gaps : Nat → Int) (c_p1_size : Int) (c_p1_gaps : Nat → Int) : Option (Int × (Nat → Int)) := grd (cpyOk 0 0 25 25 25) (some (c_p1_size, (va_cpy c_p1_gaps c_this_gaps (ix 0) (ix 0) (ix 25))))
abbrev rm_X4_become : Room := { frames := 1, cells := 0, slots := 0, locals := 60 }
abbrev w_X4_become (G : gG) (a_this : Nat) (a_this_gaps : Nat) (a_p1 : Nat) (a_p1_gaps : Nat) (c_this_size : Int) (c_this_gaps : Nat → Int) (c_p1_size : Int) (c_p1_gaps : Nat → Int) : va_W := [(a_this, .inr (4, [.int (jz c_this_size), .ref a_this_gaps])), (a_this_gaps, aI G 25 c_this_gaps), (a_p1, .inr (4, [.int (jz c_p1_size), .ref a_p1_gaps])), (a_p1_gaps, aI G 25 c_p1_gaps)]
theorem hd_X4_become : yX4_become.cls = RX4 ∧ yX4_become.cls ≠ "java/lang/invoke/MethodHandle" ∧ yX4_become.cls ≠ "java/lang/invoke/VarHandle" ∧ (parseMethodDescriptor yX4_become.desc).map (fun d => d.parameters.length) = some 1 := by decide +kernel
theorem in_X4_become_X4 : ∀ w ∈ u_ws RX4 TX4 2, w ∈ wsX4_become := fun w h => List.mem_cons_of_mem _ (List.mem_append_right _ (h))
theorem gf_X4_become_28 : GF wsX4_become RX4 28 4 0 := ⟨RX4, TX4, 2, rfl, in_X4_become_X4, by decide, List.mem_of_getElem? (i := 1) rfl⟩
theorem pf_X4_become_28 : PF wsX4_become RX4 28 4 0 .int false := ⟨RX4, TX4, 2, tyX4, rfl, in_X4_become_X4, tyX4_ok, nmX4, by decide, List.mem_of_getElem? (i := 1) rfl, rfl, rfl, rfl⟩
theorem gf_X4_become_9 : GF wsX4_become RX4 9 4 1 := ⟨RX4, TX4, 2, rfl, in_X4_become_X4, by decide, List.mem_of_getElem? (i := 2) rfl⟩
theorem mm_X4_become_3 : Cond.methodLink RX4 36 arraycopyName ∈ wsX4_become := List.mem_of_getElem? (i := 3) rfl
theorem mm_X4_become_4 : Cond.native arraycopyName ∈ wsX4_become := List.mem_of_getElem? (i := 4) rfl
theorem mm_X4_become_5 : Cond.static arraycopyName ∈ wsX4_become := List.mem_of_getElem? (i := 5) rfl
theorem mm_X4_become_6 : Cond.initialized "java/lang/System" ∈ wsX4_become := List.mem_of_getElem? (i := 6) rfl
set_option maxRecDepth 100000 in
set_option maxHeartbeats 4000000 in
theorem k_X4_become {g : XC} (C : XOk g cX4_become RX4 wsX4_become rm_X4_become 2) (a_this : Nat) (a_this_gaps : Nat) (a_p1 : Nat) (a_p1_gaps : Nat) (c_this_size : Int) (c_this_gaps : Nat → Int) (c_p1_size : Int) (c_p1_gaps : Nat → Int)  (K : (Int × (Nat → Int)) → Prop) (hK : ∀ (o0 : Int) (o1 : Nat → Int), K (o0, o1) → FinV g 0 0 (w_X4_become (xG g) a_this a_this_gaps a_p1 a_p1_gaps o0 o1 c_p1_size c_p1_gaps)) (h : wp (f_X4_become c_this_size c_this_gaps c_p1_size c_p1_gaps) K) : WW g 0 0 (w_X4_become (xG g) a_this a_this_gaps a_p1 a_p1_gaps c_this_size c_this_gaps c_p1_size c_p1_gaps) 0 [(0, .ref a_this), (1, .ref a_p1)] [] := by
  unfold f_X4_become at h
  refine r_aload_n C (pc := 0) dX4_become_0 rfl 0 rfl ?_
  refine r_aload_n C (pc := 1) dX4_become_1 rfl 1 rfl ?_
  refine r_get C (pc := 2) dX4_become_2 gf_X4_become_28 2 rfl rfl ?_
  refine r_puti C (pc := 5) dX4_become_5 pf_X4_become_28 0 rfl (Nat.le_of_ble_eq_true rfl) (ws' := w_X4_become (xG g) a_this a_this_gaps a_p1 a_p1_gaps c_p1_size c_this_gaps c_p1_size c_p1_gaps) rfl ?_
  refine r_aload_n C (pc := 8) dX4_become_8 rfl 1 rfl ?_
  refine r_get C (pc := 9) dX4_become_9 gf_X4_become_9 2 rfl rfl ?_
  refine r_iconst C (pc := 12) dX4_become_12 ?_
  refine r_aload_n C (pc := 13) dX4_become_13 rfl 0 rfl ?_
  refine r_get C (pc := 14) dX4_become_14 gf_X4_become_9 0 rfl rfl ?_
  refine r_iconst C (pc := 17) dX4_become_17 ?_
  refine r_aload_n C (pc := 18) dX4_become_18 rfl 0 rfl ?_
  refine r_get C (pc := 19) dX4_become_19 gf_X4_become_9 0 rfl rfl ?_
  refine r_alen C (pc := 22) 25 rfl dX4_become_22 1 rfl ?_
  refine r_copyi C (pc := 23) dX4_become_23 mm_X4_become_3 mm_X4_become_4 mm_X4_become_5 mm_X4_become_6 h 3 1 rfl rfl (Nat.le_of_ble_eq_true rfl) (Nat.le_of_ble_eq_true rfl) (ws' := w_X4_become (xG g) a_this a_this_gaps a_p1 a_p1_gaps c_p1_size (va_cpy c_p1_gaps c_this_gaps (ix 0) (ix 0) (ix 25)) c_p1_size c_p1_gaps) rfl (fun h => ?_)
  exact r_vret C (pc := 26) dX4_become_26 (hK c_p1_size (va_cpy c_p1_gaps c_this_gaps (ix 0) (ix 0) (ix 25)) (wp_s h))
theorem c_X4_become (l : Launch) (G : gG) (a_this : Nat) (a_this_gaps : Nat) (a_p1 : Nat) (a_p1_gaps : Nat) (c_this_size : Int) (c_this_gaps : Nat → Int) (c_p1_size : Int) (c_p1_gaps : Nat → Int) (o0 : Int) (o1 : Nat → Int) (hf : f_X4_become c_this_size c_this_gaps c_p1_size c_p1_gaps = some (o0, o1)) : CTv l yX4_become wsX4_become rm_X4_become G (w_X4_become G a_this a_this_gaps a_p1 a_p1_gaps c_this_size c_this_gaps c_p1_size c_p1_gaps) [.ref a_this, .ref a_p1] (w_X4_become G a_this a_this_gaps a_p1 a_p1_gaps o0 o1 c_p1_size c_p1_gaps) := CTv_of (by decide) rfl rfl (Nat.le_of_ble_eq_true rfl) (fun g C hG hl hF => by
    subst hG
    subst hl
    exact k_X4_become C a_this a_this_gaps a_p1 a_p1_gaps c_this_size c_this_gaps c_p1_size c_p1_gaps (fun x => x = (o0, o1)) (fun o0' o1' e => by cases e; exact hF) ⟨_, hf, rfl⟩)

-- TightHulls$Table.firstBarred()I
def f_X4_firstBarred (c_this_size : Int) (c_this_gaps : Nat → Int) : Option Int := lq1 (fun (n2 : Int → Option Int) (v1_2 : Int) => if ltI v1_2 c_this_size = true then (lq1 (fun (n12 : Int → Option Int) (v2_12 : Int) => if ltI v2_12 c_this_size = true then (lv ((v1_2 + 1)) (fun x23 => lq1 (fun (n24 : Int → Option Int) (v3_24 : Int) => if ltI v3_24 c_this_size = true then (bd1 (f_X4_gap v1_2 v3_24 c_this_size c_this_gaps) (fun r35 => bd1 (f_X4_gap v1_2 v2_12 c_this_size c_this_gaps) (fun r41 => bd1 (f_X4_gap v2_12 v3_24 c_this_size c_this_gaps) (fun r47 => if ltI (r41 + r47) r35 = true then (some (((100 * v1_2) + (10 * v2_12)) + v3_24)) else (n24 (v3_24 + 1)))))) else (n12 (v2_12 + 1))) 300 x23)) else (n2 (v1_2 + 1))) 300 0) else (some (-5))) 300 0
abbrev rm_X4_firstBarred : Room := { frames := 1, cells := 0, slots := 0, locals := 23 }
abbrev w_X4_firstBarred (G : gG) (a_this : Nat) (a_this_gaps : Nat) (c_this_size : Int) (c_this_gaps : Nat → Int) : va_W := [(a_this, .inr (4, [.int (jz c_this_size), .ref a_this_gaps])), (a_this_gaps, aI G 25 c_this_gaps)]
theorem hd_X4_firstBarred : yX4_firstBarred.cls = RX4 ∧ yX4_firstBarred.cls ≠ "java/lang/invoke/MethodHandle" ∧ yX4_firstBarred.cls ≠ "java/lang/invoke/VarHandle" ∧ (parseMethodDescriptor yX4_firstBarred.desc).map (fun d => d.parameters.length) = some 0 := by decide +kernel
theorem in_X4_firstBarred_X4 : ∀ w ∈ u_ws RX4 TX4 2, w ∈ wsX4_firstBarred := fun w h => List.mem_cons_of_mem _ (List.mem_append_right _ (h))
theorem gf_X4_firstBarred_28 : GF wsX4_firstBarred RX4 28 4 0 := ⟨RX4, TX4, 2, rfl, in_X4_firstBarred_X4, by decide, List.mem_of_getElem? (i := 1) rfl⟩
set_option maxRecDepth 100000 in
set_option maxHeartbeats 4000000 in
theorem k_X4_firstBarred {g : XC} (C : XOk g cX4_firstBarred RX4 wsX4_firstBarred rm_X4_firstBarred 4) (a_this : Nat) (a_this_gaps : Nat) (c_this_size : Int) (c_this_gaps : Nat → Int)  (K : Int → Prop) (hK : ∀ (r : Int), K r → (narrow .int (.int (jz r)) = .int (jz r) → FinI g 0 0 (w_X4_firstBarred (xG g) a_this a_this_gaps c_this_size c_this_gaps) (jz r))) (h : wp (f_X4_firstBarred c_this_size c_this_gaps) K) : WW g 0 0 (w_X4_firstBarred (xG g) a_this a_this_gaps c_this_size c_this_gaps) 0 [(0, .ref a_this)] [] := by
  unfold f_X4_firstBarred at h
  refine r_iconst C (pc := 0) dX4_firstBarred_0 ?_
  refine r_istore_n C (pc := 1) dX4_firstBarred_1 rfl (by decide) (L' := [(0, .ref a_this), (1, .int (jz 0))]) rfl ?_
  refine lq1_e (fun (v1_2 : Int) => WW g 0 0 (w_X4_firstBarred (xG g) a_this a_this_gaps c_this_size c_this_gaps) 2 [(0, .ref a_this), (1, .int (jz v1_2))] []) h (fun n2 hn2 v1_2 h => ?_)
  refine r_iload_n C (pc := 2) dX4_firstBarred_2 rfl 1 rfl ?_
  refine r_aload_n C (pc := 3) dX4_firstBarred_3 rfl 0 rfl ?_
  refine r_get C (pc := 4) dX4_firstBarred_4 gf_X4_firstBarred_28 0 rfl rfl ?_
  refine r_icmp_ge C (pc := 7) 84 dX4_firstBarred_7 rfl h (fun c7 h => ?_) (fun c7 h => ?_)
  · refine r_bipush C (pc := 84) dX4_firstBarred_84 rfl ?_
    exact r_iret C (pc := 86) dX4_firstBarred_86 (hK (-5) (wp_s h) rfl)
  · refine r_iconst C (pc := 10) dX4_firstBarred_10 ?_
    refine r_istore_n C (pc := 11) dX4_firstBarred_11 rfl (by decide) (L' := [(0, .ref a_this), (1, .int (jz v1_2)), (2, .int (jz 0))]) rfl ?_
    refine lq1_e (fun (v2_12 : Int) => WW g 0 0 (w_X4_firstBarred (xG g) a_this a_this_gaps c_this_size c_this_gaps) 12 [(0, .ref a_this), (1, .int (jz v1_2)), (2, .int (jz v2_12))] []) h (fun n12 hn12 v2_12 h => ?_)
    refine r_iload_n C (pc := 12) dX4_firstBarred_12 rfl 2 rfl ?_
    refine r_aload_n C (pc := 13) dX4_firstBarred_13 rfl 0 rfl ?_
    refine r_get C (pc := 14) dX4_firstBarred_14 gf_X4_firstBarred_28 0 rfl rfl ?_
    refine r_icmp_ge C (pc := 17) 78 dX4_firstBarred_17 rfl h (fun c17 h => ?_) (fun c17 h => ?_)
    · refine r_iinc C (pc := 78) dX4_firstBarred_78 1 rfl (by decide) (L' := [(0, .ref a_this), (1, .int (jz (v1_2 + 1))), (2, .int (jz v2_12))]) rfl ?_
      refine r_goto C (pc := 81) 2 dX4_firstBarred_81 rfl ?_
      refine r_sub [0, 1] rfl ?_
      exact hn2 (v1_2 + 1) h
    · refine r_iload_n C (pc := 20) dX4_firstBarred_20 rfl 1 rfl ?_
      refine r_iconst C (pc := 21) dX4_firstBarred_21 ?_
      refine r_iadd C (pc := 22) dX4_firstBarred_22 ?_
      refine r_let h (fun x23 h => ?_)
      refine r_istore_n C (pc := 23) dX4_firstBarred_23 rfl (by decide) (L' := [(0, .ref a_this), (1, .int (jz v1_2)), (2, .int (jz v2_12)), (3, .int (jz x23))]) rfl ?_
      refine lq1_e (fun (v3_24 : Int) => WW g 0 0 (w_X4_firstBarred (xG g) a_this a_this_gaps c_this_size c_this_gaps) 24 [(0, .ref a_this), (1, .int (jz v1_2)), (2, .int (jz v2_12)), (3, .int (jz v3_24))] []) h (fun n24 hn24 v3_24 h => ?_)
      refine r_iload_n C (pc := 24) dX4_firstBarred_24 rfl 3 rfl ?_
      refine r_aload_n C (pc := 25) dX4_firstBarred_25 rfl 0 rfl ?_
      refine r_get C (pc := 26) dX4_firstBarred_26 gf_X4_firstBarred_28 0 rfl rfl ?_
      refine r_icmp_ge C (pc := 29) 72 dX4_firstBarred_29 rfl h (fun c29 h => ?_) (fun c29 h => ?_)
      · refine r_iinc C (pc := 72) dX4_firstBarred_72 2 rfl (by decide) (L' := [(0, .ref a_this), (1, .int (jz v1_2)), (2, .int (jz (v2_12 + 1))), (3, .int (jz v3_24))]) rfl ?_
        refine r_goto C (pc := 75) 12 dX4_firstBarred_75 rfl ?_
        refine r_sub [0, 1, 2] rfl ?_
        exact hn12 (v2_12 + 1) h
      · refine r_aload_n C (pc := 32) dX4_firstBarred_32 rfl 0 rfl ?_
        refine r_iload_n C (pc := 33) dX4_firstBarred_33 rfl 1 rfl ?_
        refine r_iload_n C (pc := 34) dX4_firstBarred_34 rfl 3 rfl ?_
        obtain ⟨r35, e35, h⟩ := wp_b1 h
        refine b_cVi C (pc := 35) dX4_firstBarred_35 (c_X4_gap (xl g) (xG g) a_this a_this_gaps c_this_size c_this_gaps v1_2 v3_24 r35 e35) rfl gX4_firstBarred_X4_gap ⟨rfl, rfl⟩ 2 hd_X4_gap ⟨Nat.le_of_ble_eq_true rfl, Nat.le_of_ble_eq_true rfl⟩ rfl 0 rfl rfl rfl [0, 1] rfl (srt_nd 0 rfl) (ws' := w_X4_firstBarred (xG g) a_this a_this_gaps c_this_size c_this_gaps) (Put.m rfl rfl rfl) rfl (rest := []) rfl (Nat.le_of_ble_eq_true rfl) ⟨Nat.zero_le _, Nat.zero_le _⟩ ?_
        refine r_aload_n C (pc := 38) dX4_firstBarred_38 rfl 0 rfl ?_
        refine r_iload_n C (pc := 39) dX4_firstBarred_39 rfl 1 rfl ?_
        refine r_iload_n C (pc := 40) dX4_firstBarred_40 rfl 2 rfl ?_
        obtain ⟨r41, e41, h⟩ := wp_b1 h
        refine b_cVi C (pc := 41) dX4_firstBarred_41 (c_X4_gap (xl g) (xG g) a_this a_this_gaps c_this_size c_this_gaps v1_2 v2_12 r41 e41) rfl gX4_firstBarred_X4_gap ⟨rfl, rfl⟩ 2 hd_X4_gap ⟨Nat.le_of_ble_eq_true rfl, Nat.le_of_ble_eq_true rfl⟩ rfl 0 rfl rfl rfl [0, 1] rfl (srt_nd 0 rfl) (ws' := w_X4_firstBarred (xG g) a_this a_this_gaps c_this_size c_this_gaps) (Put.m rfl rfl rfl) rfl (rest := [.int (jz r35)]) rfl (Nat.le_of_ble_eq_true rfl) ⟨Nat.zero_le _, Nat.zero_le _⟩ ?_
        refine r_aload_n C (pc := 44) dX4_firstBarred_44 rfl 0 rfl ?_
        refine r_iload_n C (pc := 45) dX4_firstBarred_45 rfl 2 rfl ?_
        refine r_iload_n C (pc := 46) dX4_firstBarred_46 rfl 3 rfl ?_
        obtain ⟨r47, e47, h⟩ := wp_b1 h
        refine b_cVi C (pc := 47) dX4_firstBarred_47 (c_X4_gap (xl g) (xG g) a_this a_this_gaps c_this_size c_this_gaps v2_12 v3_24 r47 e47) rfl gX4_firstBarred_X4_gap ⟨rfl, rfl⟩ 2 hd_X4_gap ⟨Nat.le_of_ble_eq_true rfl, Nat.le_of_ble_eq_true rfl⟩ rfl 0 rfl rfl rfl [0, 1] rfl (srt_nd 0 rfl) (ws' := w_X4_firstBarred (xG g) a_this a_this_gaps c_this_size c_this_gaps) (Put.m rfl rfl rfl) rfl (rest := [.int (jz r41), .int (jz r35)]) rfl (Nat.le_of_ble_eq_true rfl) ⟨Nat.zero_le _, Nat.zero_le _⟩ ?_
        refine r_iadd C (pc := 50) dX4_firstBarred_50 ?_
        refine r_icmp_le C (pc := 51) 66 dX4_firstBarred_51 rfl h (fun c51 h => ?_) (fun c51 h => ?_)
        · refine r_iinc C (pc := 66) dX4_firstBarred_66 3 rfl (by decide) (L' := [(0, .ref a_this), (1, .int (jz v1_2)), (2, .int (jz v2_12)), (3, .int (jz (v3_24 + 1)))]) rfl ?_
          refine r_goto C (pc := 69) 24 dX4_firstBarred_69 rfl ?_
          exact hn24 (v3_24 + 1) h
        · refine r_bipush C (pc := 54) dX4_firstBarred_54 rfl ?_
          refine r_iload_n C (pc := 56) dX4_firstBarred_56 rfl 1 rfl ?_
          refine r_imul C (pc := 57) dX4_firstBarred_57 ?_
          refine r_bipush C (pc := 58) dX4_firstBarred_58 rfl ?_
          refine r_iload_n C (pc := 60) dX4_firstBarred_60 rfl 2 rfl ?_
          refine r_imul C (pc := 61) dX4_firstBarred_61 ?_
          refine r_iadd C (pc := 62) dX4_firstBarred_62 ?_
          refine r_iload_n C (pc := 63) dX4_firstBarred_63 rfl 3 rfl ?_
          refine r_iadd C (pc := 64) dX4_firstBarred_64 ?_
          exact r_iret C (pc := 65) dX4_firstBarred_65 (hK (((100 * v1_2) + (10 * v2_12)) + v3_24) (wp_s h) rfl)
theorem c_X4_firstBarred (l : Launch) (G : gG) (a_this : Nat) (a_this_gaps : Nat) (c_this_size : Int) (c_this_gaps : Nat → Int) (r : Int) (hf : f_X4_firstBarred c_this_size c_this_gaps = some r) : CTi l yX4_firstBarred wsX4_firstBarred rm_X4_firstBarred G (w_X4_firstBarred G a_this a_this_gaps c_this_size c_this_gaps) [.ref a_this] (jz r) (w_X4_firstBarred G a_this a_this_gaps c_this_size c_this_gaps) := CTi_of (by decide) rfl rfl (Nat.le_of_ble_eq_true rfl) (fun g C hG hl hF => by
    subst hG
    subst hl
    exact k_X4_firstBarred C a_this a_this_gaps c_this_size c_this_gaps (fun x => x = r) (fun r' e => by cases e; exact hF) ⟨_, hf, rfl⟩)

-- TightHulls$Table.isTable()Z
def f_X4_isTable (c_this_size : Int) (c_this_gaps : Nat → Int) : Option Int := bd1 (f_X4_firstBarred c_this_size c_this_gaps) (fun r1 => jn (fun (s0_14 : Int) => grd (isB s0_14) (some s0_14)) (fun (k14 : Int → Option Int) => if eqI r1 (-5) = true then (k14 1) else (k14 0)))
abbrev rm_X4_isTable : Room := { frames := 2, cells := 0, slots := 0, locals := 46 }
abbrev w_X4_isTable (G : gG) (a_this : Nat) (a_this_gaps : Nat) (c_this_size : Int) (c_this_gaps : Nat → Int) : va_W := [(a_this, .inr (4, [.int (jz c_this_size), .ref a_this_gaps])), (a_this_gaps, aI G 25 c_this_gaps)]
theorem hd_X4_isTable : yX4_isTable.cls = RX4 ∧ yX4_isTable.cls ≠ "java/lang/invoke/MethodHandle" ∧ yX4_isTable.cls ≠ "java/lang/invoke/VarHandle" ∧ (parseMethodDescriptor yX4_isTable.desc).map (fun d => d.parameters.length) = some 0 := by decide +kernel
set_option maxRecDepth 100000 in
set_option maxHeartbeats 4000000 in
theorem k_X4_isTable {g : XC} (C : XOk g cX4_isTable RX4 wsX4_isTable rm_X4_isTable 1) (a_this : Nat) (a_this_gaps : Nat) (c_this_size : Int) (c_this_gaps : Nat → Int)  (K : Int → Prop) (hK : ∀ (r : Int), K r → (narrow .boolean (.int (jz r)) = .int (jz r) → FinI g 0 0 (w_X4_isTable (xG g) a_this a_this_gaps c_this_size c_this_gaps) (jz r))) (h : wp (f_X4_isTable c_this_size c_this_gaps) K) : WW g 0 0 (w_X4_isTable (xG g) a_this a_this_gaps c_this_size c_this_gaps) 0 [(0, .ref a_this)] [] := by
  unfold f_X4_isTable at h
  refine r_aload_n C (pc := 0) dX4_isTable_0 rfl 0 rfl ?_
  obtain ⟨r1, e1, h⟩ := wp_b1 h
  refine b_cVi C (pc := 1) dX4_isTable_1 (c_X4_firstBarred (xl g) (xG g) a_this a_this_gaps c_this_size c_this_gaps r1 e1) rfl gX4_isTable_X4_firstBarred ⟨rfl, rfl⟩ 0 hd_X4_firstBarred ⟨Nat.le_of_ble_eq_true rfl, Nat.le_of_ble_eq_true rfl⟩ rfl 0 rfl rfl rfl [0, 1] rfl (srt_nd 0 rfl) (ws' := w_X4_isTable (xG g) a_this a_this_gaps c_this_size c_this_gaps) (Put.m rfl rfl rfl) rfl (rest := []) rfl (Nat.le_of_ble_eq_true rfl) ⟨Nat.zero_le _, Nat.zero_le _⟩ ?_
  refine r_bipush C (pc := 4) dX4_isTable_4 rfl ?_
  refine jn_e (fun (k14 : Int → Option Int) => ∀ (s0_14 : Int), wp (k14 s0_14) K → WW g 0 0 (w_X4_isTable (xG g) a_this a_this_gaps c_this_size c_this_gaps) 14 [] [.int (jz s0_14)]) h (fun s0_14 h => ?_) (fun k14 hk14 h => ?_)
  · exact r_iret C (pc := 14) dX4_isTable_14 (hK s0_14 (wp_s (wp_g h).2) (nB (wp_g h).1).1)
  · refine r_icmp_ne C (pc := 6) 13 dX4_isTable_6 rfl h (fun c6 h => ?_) (fun c6 h => ?_)
    · refine r_iconst C (pc := 13) dX4_isTable_13 ?_
      refine r_sub [] rfl ?_
      exact hk14 0 h
    · refine r_iconst C (pc := 9) dX4_isTable_9 ?_
      refine r_goto C (pc := 10) 14 dX4_isTable_10 rfl ?_
      refine r_sub [] rfl ?_
      exact hk14 1 h
theorem c_X4_isTable (l : Launch) (G : gG) (a_this : Nat) (a_this_gaps : Nat) (c_this_size : Int) (c_this_gaps : Nat → Int) (r : Int) (hf : f_X4_isTable c_this_size c_this_gaps = some r) : CTi l yX4_isTable wsX4_isTable rm_X4_isTable G (w_X4_isTable G a_this a_this_gaps c_this_size c_this_gaps) [.ref a_this] (jz r) (w_X4_isTable G a_this a_this_gaps c_this_size c_this_gaps) := CTi_of (by decide) rfl rfl (Nat.le_of_ble_eq_true rfl) (fun g C hG hl hF => by
    subst hG
    subst hl
    exact k_X4_isTable C a_this a_this_gaps c_this_size c_this_gaps (fun x => x = r) (fun r' e => by cases e; exact hF) ⟨_, hf, rfl⟩)

-- TightHulls$Table.has(I)Z
def f_X4_has (p1 : Int) (c_this_size : Int) : Option Int := jn (fun (s0_17 : Int) => grd (isB s0_17) (some s0_17)) (fun (k17 : Int → Option Int) => jn (k17 0) (fun (k16 : Option Int) => if ltI p1 0 = true then k16 else (if ltI p1 c_this_size = true then (k17 1) else k16)))
abbrev rm_X4_has : Room := { frames := 0, cells := 0, slots := 0, locals := 0 }
abbrev w_X4_has (G : gG) (a_this : Nat) (a_this_gaps : Nat) (c_this_size : Int) : va_W := [(a_this, .inr (4, [.int (jz c_this_size), .ref a_this_gaps]))]
theorem hd_X4_has : yX4_has.cls = RX4 ∧ yX4_has.cls ≠ "java/lang/invoke/MethodHandle" ∧ yX4_has.cls ≠ "java/lang/invoke/VarHandle" ∧ (parseMethodDescriptor yX4_has.desc).map (fun d => d.parameters.length) = some 1 := by decide +kernel
theorem in_X4_has_X4 : ∀ w ∈ u_ws RX4 TX4 2, w ∈ wsX4_has := fun w h => List.mem_cons_of_mem _ (List.mem_append_right _ (h))
theorem gf_X4_has_28 : GF wsX4_has RX4 28 4 0 := ⟨RX4, TX4, 2, rfl, in_X4_has_X4, by decide, List.mem_of_getElem? (i := 1) rfl⟩
set_option maxRecDepth 100000 in
set_option maxHeartbeats 4000000 in
theorem k_X4_has {g : XC} (C : XOk g cX4_has RX4 wsX4_has rm_X4_has 2) (a_this : Nat) (a_this_gaps : Nat) (c_this_size : Int) (p1 : Int) (K : Int → Prop) (hK : ∀ (r : Int), K r → (narrow .boolean (.int (jz r)) = .int (jz r) → FinI g 0 0 (w_X4_has (xG g) a_this a_this_gaps c_this_size) (jz r))) (h : wp (f_X4_has p1 c_this_size) K) : WW g 0 0 (w_X4_has (xG g) a_this a_this_gaps c_this_size) 0 [(0, .ref a_this), (1, .int (jz p1))] [] := by
  unfold f_X4_has at h
  refine r_iload_n C (pc := 0) dX4_has_0 rfl 1 rfl ?_
  refine jn_e (fun (k17 : Int → Option Int) => ∀ (s0_17 : Int), wp (k17 s0_17) K → WW g 0 0 (w_X4_has (xG g) a_this a_this_gaps c_this_size) 17 [] [.int (jz s0_17)]) h (fun s0_17 h => ?_) (fun k17 hk17 h => ?_)
  · exact r_iret C (pc := 17) dX4_has_17 (hK s0_17 (wp_s (wp_g h).2) (nB (wp_g h).1).1)
  · refine jn_e (fun (k16 : Option Int) => wp (k16) K → WW g 0 0 (w_X4_has (xG g) a_this a_this_gaps c_this_size) 16 [] []) h (fun h => ?_) (fun k16 hk16 h => ?_)
    · refine r_iconst C (pc := 16) dX4_has_16 ?_
      exact hk17 0 h
    · refine r_if_lt C (pc := 1) 16 dX4_has_1 rfl h (fun c1 h => ?_) (fun c1 h => ?_)
      · refine r_sub [] rfl ?_
        exact hk16 h
      · refine r_iload_n C (pc := 4) dX4_has_4 rfl 1 rfl ?_
        refine r_aload_n C (pc := 5) dX4_has_5 rfl 0 rfl ?_
        refine r_get C (pc := 6) dX4_has_6 gf_X4_has_28 0 rfl rfl ?_
        refine r_icmp_ge C (pc := 9) 16 dX4_has_9 rfl h (fun c9 h => ?_) (fun c9 h => ?_)
        · refine r_sub [] rfl ?_
          exact hk16 h
        · refine r_iconst C (pc := 12) dX4_has_12 ?_
          refine r_goto C (pc := 13) 17 dX4_has_13 rfl ?_
          refine r_sub [] rfl ?_
          exact hk17 1 h
theorem c_X4_has (l : Launch) (G : gG) (a_this : Nat) (a_this_gaps : Nat) (c_this_size : Int) (p1 : Int) (r : Int) (hf : f_X4_has p1 c_this_size = some r) : CTi l yX4_has wsX4_has rm_X4_has G (w_X4_has G a_this a_this_gaps c_this_size) [.ref a_this, .int (jz p1)] (jz r) (w_X4_has G a_this a_this_gaps c_this_size) := CTi_of (by decide) rfl rfl (Nat.le_of_ble_eq_true rfl) (fun g C hG hl hF => by
    subst hG
    subst hl
    exact k_X4_has C a_this a_this_gaps c_this_size p1 (fun x => x = r) (fun r' e => by cases e; exact hF) ⟨_, hf, rfl⟩)

-- TightHulls$Table.areTwo(II)Z
def f_X4_areTwo (p1 : Int) (p2 : Int) (c_this_size : Int) : Option Int := jn (fun (s0_34 : Int) => grd (isB s0_34) (some s0_34)) (fun (k34 : Int → Option Int) => jn (k34 0) (fun (k33 : Option Int) => if ltI p1 0 = true then k33 else (if ltI p1 c_this_size = true then (if ltI p2 0 = true then k33 else (if ltI p2 c_this_size = true then (if eqI p1 p2 = true then k33 else (k34 1)) else k33)) else k33)))
abbrev rm_X4_areTwo : Room := { frames := 0, cells := 0, slots := 0, locals := 0 }
abbrev w_X4_areTwo (G : gG) (a_this : Nat) (a_this_gaps : Nat) (c_this_size : Int) : va_W := [(a_this, .inr (4, [.int (jz c_this_size), .ref a_this_gaps]))]
theorem hd_X4_areTwo : yX4_areTwo.cls = RX4 ∧ yX4_areTwo.cls ≠ "java/lang/invoke/MethodHandle" ∧ yX4_areTwo.cls ≠ "java/lang/invoke/VarHandle" ∧ (parseMethodDescriptor yX4_areTwo.desc).map (fun d => d.parameters.length) = some 2 := by decide +kernel
theorem in_X4_areTwo_X4 : ∀ w ∈ u_ws RX4 TX4 2, w ∈ wsX4_areTwo := fun w h => List.mem_cons_of_mem _ (List.mem_append_right _ (h))
theorem gf_X4_areTwo_28 : GF wsX4_areTwo RX4 28 4 0 := ⟨RX4, TX4, 2, rfl, in_X4_areTwo_X4, by decide, List.mem_of_getElem? (i := 1) rfl⟩
set_option maxRecDepth 100000 in
set_option maxHeartbeats 4000000 in
theorem k_X4_areTwo {g : XC} (C : XOk g cX4_areTwo RX4 wsX4_areTwo rm_X4_areTwo 3) (a_this : Nat) (a_this_gaps : Nat) (c_this_size : Int) (p1 : Int) (p2 : Int) (K : Int → Prop) (hK : ∀ (r : Int), K r → (narrow .boolean (.int (jz r)) = .int (jz r) → FinI g 0 0 (w_X4_areTwo (xG g) a_this a_this_gaps c_this_size) (jz r))) (h : wp (f_X4_areTwo p1 p2 c_this_size) K) : WW g 0 0 (w_X4_areTwo (xG g) a_this a_this_gaps c_this_size) 0 [(0, .ref a_this), (1, .int (jz p1)), (2, .int (jz p2))] [] := by
  unfold f_X4_areTwo at h
  refine r_iload_n C (pc := 0) dX4_areTwo_0 rfl 1 rfl ?_
  refine jn_e (fun (k34 : Int → Option Int) => ∀ (s0_34 : Int), wp (k34 s0_34) K → WW g 0 0 (w_X4_areTwo (xG g) a_this a_this_gaps c_this_size) 34 [] [.int (jz s0_34)]) h (fun s0_34 h => ?_) (fun k34 hk34 h => ?_)
  · exact r_iret C (pc := 34) dX4_areTwo_34 (hK s0_34 (wp_s (wp_g h).2) (nB (wp_g h).1).1)
  · refine jn_e (fun (k33 : Option Int) => wp (k33) K → WW g 0 0 (w_X4_areTwo (xG g) a_this a_this_gaps c_this_size) 33 [] []) h (fun h => ?_) (fun k33 hk33 h => ?_)
    · refine r_iconst C (pc := 33) dX4_areTwo_33 ?_
      exact hk34 0 h
    · refine r_if_lt C (pc := 1) 33 dX4_areTwo_1 rfl h (fun c1 h => ?_) (fun c1 h => ?_)
      · refine r_sub [] rfl ?_
        exact hk33 h
      · refine r_iload_n C (pc := 4) dX4_areTwo_4 rfl 1 rfl ?_
        refine r_aload_n C (pc := 5) dX4_areTwo_5 rfl 0 rfl ?_
        refine r_get C (pc := 6) dX4_areTwo_6 gf_X4_areTwo_28 0 rfl rfl ?_
        refine r_icmp_ge C (pc := 9) 33 dX4_areTwo_9 rfl h (fun c9 h => ?_) (fun c9 h => ?_)
        · refine r_sub [] rfl ?_
          exact hk33 h
        · refine r_iload_n C (pc := 12) dX4_areTwo_12 rfl 2 rfl ?_
          refine r_if_lt C (pc := 13) 33 dX4_areTwo_13 rfl h (fun c13 h => ?_) (fun c13 h => ?_)
          · refine r_sub [] rfl ?_
            exact hk33 h
          · refine r_iload_n C (pc := 16) dX4_areTwo_16 rfl 2 rfl ?_
            refine r_aload_n C (pc := 17) dX4_areTwo_17 rfl 0 rfl ?_
            refine r_get C (pc := 18) dX4_areTwo_18 gf_X4_areTwo_28 0 rfl rfl ?_
            refine r_icmp_ge C (pc := 21) 33 dX4_areTwo_21 rfl h (fun c21 h => ?_) (fun c21 h => ?_)
            · refine r_sub [] rfl ?_
              exact hk33 h
            · refine r_iload_n C (pc := 24) dX4_areTwo_24 rfl 1 rfl ?_
              refine r_iload_n C (pc := 25) dX4_areTwo_25 rfl 2 rfl ?_
              refine r_icmp_eq C (pc := 26) 33 dX4_areTwo_26 rfl h (fun c26 h => ?_) (fun c26 h => ?_)
              · refine r_sub [] rfl ?_
                exact hk33 h
              · refine r_iconst C (pc := 29) dX4_areTwo_29 ?_
                refine r_goto C (pc := 30) 34 dX4_areTwo_30 rfl ?_
                refine r_sub [] rfl ?_
                exact hk34 1 h
theorem c_X4_areTwo (l : Launch) (G : gG) (a_this : Nat) (a_this_gaps : Nat) (c_this_size : Int) (p1 : Int) (p2 : Int) (r : Int) (hf : f_X4_areTwo p1 p2 c_this_size = some r) : CTi l yX4_areTwo wsX4_areTwo rm_X4_areTwo G (w_X4_areTwo G a_this a_this_gaps c_this_size) [.ref a_this, .int (jz p1), .int (jz p2)] (jz r) (w_X4_areTwo G a_this a_this_gaps c_this_size) := CTi_of (by decide) rfl rfl (Nat.le_of_ble_eq_true rfl) (fun g C hG hl hF => by
    subst hG
    subst hl
    exact k_X4_areTwo C a_this a_this_gaps c_this_size p1 p2 (fun x => x = r) (fun r' e => by cases e; exact hF) ⟨_, hf, rfl⟩)

-- TightHulls$Table.put(III)V
def f_X4_put (p1 : Int) (p2 : Int) (p3 : Int) (c_this_size : Int) (c_this_gaps : Nat → Int) : Option (Nat → Int) := bd1 (f_X4_areTwo p1 p2 c_this_size) (fun r3 => jn (fun (this_gaps_31 : Nat → Int) => some this_gaps_31) (fun (k31 : (Nat → Int) → Option (Nat → Int)) => if eqI r3 0 = true then (k31 c_this_gaps) else (grd (iin ((5 * p1) + p2) 25) (grd (iin ((5 * p2) + p1) 25) (k31 (up (up c_this_gaps (ix ((5 * p1) + p2)) p3) (ix ((5 * p2) + p1)) p3))))))
abbrev rm_X4_put : Room := { frames := 1, cells := 0, slots := 0, locals := 22 }
abbrev w_X4_put (G : gG) (a_this : Nat) (a_this_gaps : Nat) (c_this_size : Int) (c_this_gaps : Nat → Int) : va_W := [(a_this, .inr (4, [.int (jz c_this_size), .ref a_this_gaps])), (a_this_gaps, aI G 25 c_this_gaps)]
theorem hd_X4_put : yX4_put.cls = RX4 ∧ yX4_put.cls ≠ "java/lang/invoke/MethodHandle" ∧ yX4_put.cls ≠ "java/lang/invoke/VarHandle" ∧ (parseMethodDescriptor yX4_put.desc).map (fun d => d.parameters.length) = some 3 := by decide +kernel
theorem in_X4_put_X4 : ∀ w ∈ u_ws RX4 TX4 2, w ∈ wsX4_put := fun w h => List.mem_cons_of_mem _ (List.mem_append_right _ (h))
theorem gf_X4_put_9 : GF wsX4_put RX4 9 4 1 := ⟨RX4, TX4, 2, rfl, in_X4_put_X4, by decide, List.mem_of_getElem? (i := 1) rfl⟩
set_option maxRecDepth 100000 in
set_option maxHeartbeats 4000000 in
theorem k_X4_put {g : XC} (C : XOk g cX4_put RX4 wsX4_put rm_X4_put 4) (a_this : Nat) (a_this_gaps : Nat) (c_this_size : Int) (c_this_gaps : Nat → Int) (p1 : Int) (p2 : Int) (p3 : Int) (K : (Nat → Int) → Prop) (hK : ∀ (o0 : Nat → Int), K o0 → FinV g 0 0 (w_X4_put (xG g) a_this a_this_gaps c_this_size o0)) (h : wp (f_X4_put p1 p2 p3 c_this_size c_this_gaps) K) : WW g 0 0 (w_X4_put (xG g) a_this a_this_gaps c_this_size c_this_gaps) 0 [(0, .ref a_this), (1, .int (jz p1)), (2, .int (jz p2)), (3, .int (jz p3))] [] := by
  unfold f_X4_put at h
  refine r_aload_n C (pc := 0) dX4_put_0 rfl 0 rfl ?_
  refine r_iload_n C (pc := 1) dX4_put_1 rfl 1 rfl ?_
  refine r_iload_n C (pc := 2) dX4_put_2 rfl 2 rfl ?_
  obtain ⟨r3, e3, h⟩ := wp_b1 h
  refine b_cVi C (pc := 3) dX4_put_3 (c_X4_areTwo (xl g) (xG g) a_this a_this_gaps c_this_size p1 p2 r3 e3) rfl gX4_put_X4_areTwo ⟨rfl, rfl⟩ 2 hd_X4_areTwo ⟨Nat.le_of_ble_eq_true rfl, Nat.le_of_ble_eq_true rfl⟩ rfl 0 rfl rfl rfl [0] rfl (srt_nd 0 rfl) (ws' := w_X4_put (xG g) a_this a_this_gaps c_this_size c_this_gaps) (Put.m rfl rfl rfl) rfl (rest := []) rfl (Nat.le_of_ble_eq_true rfl) ⟨Nat.zero_le _, Nat.zero_le _⟩ ?_
  refine jn_e (fun (k31 : (Nat → Int) → Option (Nat → Int)) => ∀ (this_gaps_31 : Nat → Int), wp (k31 this_gaps_31) K → WW g 0 0 (w_X4_put (xG g) a_this a_this_gaps c_this_size this_gaps_31) 31 [] []) h (fun this_gaps_31 h => ?_) (fun k31 hk31 h => ?_)
  · exact r_vret C (pc := 31) dX4_put_31 (hK this_gaps_31 (wp_s h))
  · refine r_if_eq C (pc := 6) 31 dX4_put_6 rfl h (fun c6 h => ?_) (fun c6 h => ?_)
    · refine r_sub [] rfl ?_
      exact hk31 c_this_gaps h
    · refine r_aload_n C (pc := 9) dX4_put_9 rfl 0 rfl ?_
      refine r_get C (pc := 10) dX4_put_10 gf_X4_put_9 0 rfl rfl ?_
      refine r_iconst C (pc := 13) dX4_put_13 ?_
      refine r_iload_n C (pc := 14) dX4_put_14 rfl 1 rfl ?_
      refine r_imul C (pc := 15) dX4_put_15 ?_
      refine r_iload_n C (pc := 16) dX4_put_16 rfl 2 rfl ?_
      refine r_iadd C (pc := 17) dX4_put_17 ?_
      refine r_iload_n C (pc := 18) dX4_put_18 rfl 3 rfl ?_
      refine r_iast C (pc := 19) dX4_put_19 h 1 rfl (ws' := w_X4_put (xG g) a_this a_this_gaps c_this_size (up c_this_gaps (ix ((5 * p1) + p2)) p3)) rfl (fun h => ?_)
      refine r_aload_n C (pc := 20) dX4_put_20 rfl 0 rfl ?_
      refine r_get C (pc := 21) dX4_put_21 gf_X4_put_9 0 rfl rfl ?_
      refine r_iconst C (pc := 24) dX4_put_24 ?_
      refine r_iload_n C (pc := 25) dX4_put_25 rfl 2 rfl ?_
      refine r_imul C (pc := 26) dX4_put_26 ?_
      refine r_iload_n C (pc := 27) dX4_put_27 rfl 1 rfl ?_
      refine r_iadd C (pc := 28) dX4_put_28 ?_
      refine r_iload_n C (pc := 29) dX4_put_29 rfl 3 rfl ?_
      refine r_iast C (pc := 30) dX4_put_30 h 1 rfl (ws' := w_X4_put (xG g) a_this a_this_gaps c_this_size (up (up c_this_gaps (ix ((5 * p1) + p2)) p3) (ix ((5 * p2) + p1)) p3)) rfl (fun h => ?_)
      refine r_sub [] rfl ?_
      exact hk31 (up (up c_this_gaps (ix ((5 * p1) + p2)) p3) (ix ((5 * p2) + p1)) p3) h
theorem c_X4_put (l : Launch) (G : gG) (a_this : Nat) (a_this_gaps : Nat) (c_this_size : Int) (c_this_gaps : Nat → Int) (p1 : Int) (p2 : Int) (p3 : Int) (o0 : Nat → Int) (hf : f_X4_put p1 p2 p3 c_this_size c_this_gaps = some o0) : CTv l yX4_put wsX4_put rm_X4_put G (w_X4_put G a_this a_this_gaps c_this_size c_this_gaps) [.ref a_this, .int (jz p1), .int (jz p2), .int (jz p3)] (w_X4_put G a_this a_this_gaps c_this_size o0) := CTv_of (by decide) rfl rfl (Nat.le_of_ble_eq_true rfl) (fun g C hG hl hF => by
    subst hG
    subst hl
    exact k_X4_put C a_this a_this_gaps c_this_size c_this_gaps p1 p2 p3 (fun x => x = o0) (fun o0' e => by cases e; exact hF) ⟨_, hf, rfl⟩)

-- TightHulls$Table.spread(I)V
def f_X4_spread (p1 : Int) (c_this_size : Int) (c_this_gaps : Nat → Int) : Option (Int × (Nat → Int)) := lv ((maxI 3 (minI p1 5))) (fun x10 => lq2 (fun (n15 : Int → (Nat → Int) → Option (Int × (Nat → Int))) (v2_15 : Int) (this_gaps_15 : Nat → Int) => if ltI v2_15 x10 = true then (lv ((v2_15 + 1)) (fun x26 => lq2 (fun (n27 : Int → (Nat → Int) → Option (Int × (Nat → Int))) (v3_27 : Int) (this_gaps_27 : Nat → Int) => if ltI v3_27 x10 = true then (bd1 (f_X4_put v2_15 v3_27 2 x10 this_gaps_27) (fun this_gaps_39 => n27 (v3_27 + 1) this_gaps_39)) else (n15 (v2_15 + 1) this_gaps_27)) 300 x26 this_gaps_15)) else (some (x10, this_gaps_15))) 300 0 c_this_gaps)
abbrev rm_X4_spread : Room := { frames := 2, cells := 0, slots := 0, locals := 60 }
abbrev w_X4_spread (G : gG) (a_this : Nat) (a_this_gaps : Nat) (c_this_size : Int) (c_this_gaps : Nat → Int) : va_W := [(a_this, .inr (4, [.int (jz c_this_size), .ref a_this_gaps])), (a_this_gaps, aI G 25 c_this_gaps)]
theorem hd_X4_spread : yX4_spread.cls = RX4 ∧ yX4_spread.cls ≠ "java/lang/invoke/MethodHandle" ∧ yX4_spread.cls ≠ "java/lang/invoke/VarHandle" ∧ (parseMethodDescriptor yX4_spread.desc).map (fun d => d.parameters.length) = some 1 := by decide +kernel
theorem mm_X4_spread_1 : Cond.methodLink RX4 19 Lib.Math.min.name ∈ wsX4_spread := List.mem_of_getElem? (i := 1) rfl
theorem mm_X4_spread_2 : Cond.static Lib.Math.min.name ∈ wsX4_spread := List.mem_of_getElem? (i := 2) rfl
theorem mm_X4_spread_3 : Cond.initialized "java/lang/Math" ∈ wsX4_spread := List.mem_of_getElem? (i := 3) rfl
theorem mm_X4_spread_4 : Cond.code Lib.Math.min.name Lib.Math.min.code 2 (some .int) ∈ wsX4_spread := List.mem_of_getElem? (i := 4) rfl
theorem mm_X4_spread_5 : Cond.methodLink RX4 25 Lib.Math.max.name ∈ wsX4_spread := List.mem_of_getElem? (i := 5) rfl
theorem mm_X4_spread_6 : Cond.static Lib.Math.max.name ∈ wsX4_spread := List.mem_of_getElem? (i := 6) rfl
theorem mm_X4_spread_7 : Cond.code Lib.Math.max.name Lib.Math.max.code 2 (some .int) ∈ wsX4_spread := List.mem_of_getElem? (i := 7) rfl
theorem in_X4_spread_X4 : ∀ w ∈ u_ws RX4 TX4 2, w ∈ wsX4_spread := fun w h => List.mem_cons_of_mem _ (List.mem_append_right _ (h))
theorem pf_X4_spread_28 : PF wsX4_spread RX4 28 4 0 .int false := ⟨RX4, TX4, 2, tyX4, rfl, in_X4_spread_X4, tyX4_ok, nmX4, by decide, List.mem_of_getElem? (i := 8) rfl, rfl, rfl, rfl⟩
theorem gf_X4_spread_28 : GF wsX4_spread RX4 28 4 0 := ⟨RX4, TX4, 2, rfl, in_X4_spread_X4, by decide, List.mem_of_getElem? (i := 8) rfl⟩
set_option maxRecDepth 100000 in
set_option maxHeartbeats 4000000 in
theorem k_X4_spread {g : XC} (C : XOk g cX4_spread RX4 wsX4_spread rm_X4_spread 4) (a_this : Nat) (a_this_gaps : Nat) (c_this_size : Int) (c_this_gaps : Nat → Int) (p1 : Int) (K : (Int × (Nat → Int)) → Prop) (hK : ∀ (o0 : Int) (o1 : Nat → Int), K (o0, o1) → FinV g 0 0 (w_X4_spread (xG g) a_this a_this_gaps o0 o1)) (h : wp (f_X4_spread p1 c_this_size c_this_gaps) K) : WW g 0 0 (w_X4_spread (xG g) a_this a_this_gaps c_this_size c_this_gaps) 0 [(0, .ref a_this), (1, .int (jz p1))] [] := by
  unfold f_X4_spread at h
  refine r_aload_n C (pc := 0) dX4_spread_0 rfl 0 rfl ?_
  refine r_iconst C (pc := 1) dX4_spread_1 ?_
  refine r_iload_n C (pc := 2) dX4_spread_2 rfl 1 rfl ?_
  refine r_iconst C (pc := 3) dX4_spread_3 ?_
  refine r_mmin C (pc := 4) dX4_spread_4 mm_X4_spread_1 mm_X4_spread_2 mm_X4_spread_3 mm_X4_spread_4 (Nat.le_of_ble_eq_true rfl) (Nat.le_of_ble_eq_true rfl) ⟨Nat.zero_le _, Nat.zero_le _⟩ ?_
  refine r_mmax C (pc := 7) dX4_spread_7 mm_X4_spread_5 mm_X4_spread_6 mm_X4_spread_3 mm_X4_spread_7 (Nat.le_of_ble_eq_true rfl) (Nat.le_of_ble_eq_true rfl) ⟨Nat.zero_le _, Nat.zero_le _⟩ ?_
  refine r_let h (fun x10 h => ?_)
  refine r_puti C (pc := 10) dX4_spread_10 pf_X4_spread_28 0 rfl (Nat.le_of_ble_eq_true rfl) (ws' := w_X4_spread (xG g) a_this a_this_gaps x10 c_this_gaps) rfl ?_
  refine r_iconst C (pc := 13) dX4_spread_13 ?_
  refine r_istore_n C (pc := 14) dX4_spread_14 rfl (by decide) (L' := [(0, .ref a_this), (1, .int (jz p1)), (2, .int (jz 0))]) rfl ?_
  refine r_sub [0, 2] rfl ?_
  refine lq2_e (fun (v2_15 : Int) (this_gaps_15 : Nat → Int) => WW g 0 0 (w_X4_spread (xG g) a_this a_this_gaps x10 this_gaps_15) 15 [(0, .ref a_this), (2, .int (jz v2_15))] []) h (fun n15 hn15 v2_15 this_gaps_15 h => ?_)
  refine r_iload_n C (pc := 15) dX4_spread_15 rfl 1 rfl ?_
  refine r_aload_n C (pc := 16) dX4_spread_16 rfl 0 rfl ?_
  refine r_get C (pc := 17) dX4_spread_17 gf_X4_spread_28 0 rfl rfl ?_
  refine r_icmp_ge C (pc := 20) 54 dX4_spread_20 rfl h (fun c20 h => ?_) (fun c20 h => ?_)
  · exact r_vret C (pc := 54) dX4_spread_54 (hK x10 this_gaps_15 (wp_s h))
  · refine r_iload_n C (pc := 23) dX4_spread_23 rfl 1 rfl ?_
    refine r_iconst C (pc := 24) dX4_spread_24 ?_
    refine r_iadd C (pc := 25) dX4_spread_25 ?_
    refine r_let h (fun x26 h => ?_)
    refine r_istore_n C (pc := 26) dX4_spread_26 rfl (by decide) (L' := [(0, .ref a_this), (2, .int (jz v2_15)), (3, .int (jz x26))]) rfl ?_
    refine lq2_e (fun (v3_27 : Int) (this_gaps_27 : Nat → Int) => WW g 0 0 (w_X4_spread (xG g) a_this a_this_gaps x10 this_gaps_27) 27 [(0, .ref a_this), (2, .int (jz v2_15)), (3, .int (jz v3_27))] []) h (fun n27 hn27 v3_27 this_gaps_27 h => ?_)
    refine r_iload_n C (pc := 27) dX4_spread_27 rfl 2 rfl ?_
    refine r_aload_n C (pc := 28) dX4_spread_28 rfl 0 rfl ?_
    refine r_get C (pc := 29) dX4_spread_29 gf_X4_spread_28 0 rfl rfl ?_
    refine r_icmp_ge C (pc := 32) 48 dX4_spread_32 rfl h (fun c32 h => ?_) (fun c32 h => ?_)
    · refine r_iinc C (pc := 48) dX4_spread_48 1 rfl (by decide) (L' := [(0, .ref a_this), (2, .int (jz (v2_15 + 1))), (3, .int (jz v3_27))]) rfl ?_
      refine r_goto C (pc := 51) 15 dX4_spread_51 rfl ?_
      refine r_sub [0, 1] rfl ?_
      exact hn15 (v2_15 + 1) this_gaps_27 h
    · refine r_aload_n C (pc := 35) dX4_spread_35 rfl 0 rfl ?_
      refine r_iload_n C (pc := 36) dX4_spread_36 rfl 1 rfl ?_
      refine r_iload_n C (pc := 37) dX4_spread_37 rfl 2 rfl ?_
      refine r_iconst C (pc := 38) dX4_spread_38 ?_
      obtain ⟨this_gaps_39, e39, h⟩ := wp_b1 h
      refine b_cVv C (pc := 39) dX4_spread_39 (c_X4_put (xl g) (xG g) a_this a_this_gaps x10 this_gaps_27 v2_15 v3_27 2 this_gaps_39 e39) rfl gX4_spread_X4_put ⟨rfl, rfl⟩ 3 hd_X4_put ⟨Nat.le_of_ble_eq_true rfl, Nat.le_of_ble_eq_true rfl⟩ rfl 0 rfl rfl rfl [0, 1] rfl (srt_nd 0 rfl) (ws' := w_X4_spread (xG g) a_this a_this_gaps x10 this_gaps_39) (Put.m rfl rfl rfl) rfl (rest := []) rfl (Nat.le_of_ble_eq_true rfl) ⟨Nat.zero_le _, Nat.zero_le _⟩ ?_
      refine r_iinc C (pc := 42) dX4_spread_42 2 rfl (by decide) (L' := [(0, .ref a_this), (2, .int (jz v2_15)), (3, .int (jz (v3_27 + 1)))]) rfl ?_
      refine r_goto C (pc := 45) 27 dX4_spread_45 rfl ?_
      exact hn27 (v3_27 + 1) this_gaps_39 h
theorem c_X4_spread (l : Launch) (G : gG) (a_this : Nat) (a_this_gaps : Nat) (c_this_size : Int) (c_this_gaps : Nat → Int) (p1 : Int) (o0 : Int) (o1 : Nat → Int) (hf : f_X4_spread p1 c_this_size c_this_gaps = some (o0, o1)) : CTv l yX4_spread wsX4_spread rm_X4_spread G (w_X4_spread G a_this a_this_gaps c_this_size c_this_gaps) [.ref a_this, .int (jz p1)] (w_X4_spread G a_this a_this_gaps o0 o1) := CTv_of (by decide) rfl rfl (Nat.le_of_ble_eq_true rfl) (fun g C hG hl hF => by
    subst hG
    subst hl
    exact k_X4_spread C a_this a_this_gaps c_this_size c_this_gaps p1 (fun x => x = (o0, o1)) (fun o0' o1' e => by cases e; exact hF) ⟨_, hf, rfl⟩)

-- TightHulls$Table.isSplit(I)Z
def f_X4_isSplit (p1 : Int) (c_this_size : Int) : Option Int := jn (fun (s0_25 : Int) => grd (isB s0_25) (some s0_25)) (fun (k25 : Int → Option Int) => jn (k25 0) (fun (k24 : Option Int) => if ltI 0 p1 = true then (if eqI (andI p1 1) 0 = true then (if ltI p1 (shlI 1 c_this_size) = true then (k25 1) else k24) else k24) else k24))
abbrev rm_X4_isSplit : Room := { frames := 0, cells := 0, slots := 0, locals := 0 }
abbrev w_X4_isSplit (G : gG) (a_this : Nat) (a_this_gaps : Nat) (c_this_size : Int) : va_W := [(a_this, .inr (4, [.int (jz c_this_size), .ref a_this_gaps]))]
theorem hd_X4_isSplit : yX4_isSplit.cls = RX4 ∧ yX4_isSplit.cls ≠ "java/lang/invoke/MethodHandle" ∧ yX4_isSplit.cls ≠ "java/lang/invoke/VarHandle" ∧ (parseMethodDescriptor yX4_isSplit.desc).map (fun d => d.parameters.length) = some 1 := by decide +kernel
theorem in_X4_isSplit_X4 : ∀ w ∈ u_ws RX4 TX4 2, w ∈ wsX4_isSplit := fun w h => List.mem_cons_of_mem _ (List.mem_append_right _ (h))
theorem gf_X4_isSplit_28 : GF wsX4_isSplit RX4 28 4 0 := ⟨RX4, TX4, 2, rfl, in_X4_isSplit_X4, by decide, List.mem_of_getElem? (i := 1) rfl⟩
set_option maxRecDepth 100000 in
set_option maxHeartbeats 4000000 in
theorem k_X4_isSplit {g : XC} (C : XOk g cX4_isSplit RX4 wsX4_isSplit rm_X4_isSplit 2) (a_this : Nat) (a_this_gaps : Nat) (c_this_size : Int) (p1 : Int) (K : Int → Prop) (hK : ∀ (r : Int), K r → (narrow .boolean (.int (jz r)) = .int (jz r) → FinI g 0 0 (w_X4_isSplit (xG g) a_this a_this_gaps c_this_size) (jz r))) (h : wp (f_X4_isSplit p1 c_this_size) K) : WW g 0 0 (w_X4_isSplit (xG g) a_this a_this_gaps c_this_size) 0 [(0, .ref a_this), (1, .int (jz p1))] [] := by
  unfold f_X4_isSplit at h
  refine r_iload_n C (pc := 0) dX4_isSplit_0 rfl 1 rfl ?_
  refine jn_e (fun (k25 : Int → Option Int) => ∀ (s0_25 : Int), wp (k25 s0_25) K → WW g 0 0 (w_X4_isSplit (xG g) a_this a_this_gaps c_this_size) 25 [] [.int (jz s0_25)]) h (fun s0_25 h => ?_) (fun k25 hk25 h => ?_)
  · exact r_iret C (pc := 25) dX4_isSplit_25 (hK s0_25 (wp_s (wp_g h).2) (nB (wp_g h).1).1)
  · refine jn_e (fun (k24 : Option Int) => wp (k24) K → WW g 0 0 (w_X4_isSplit (xG g) a_this a_this_gaps c_this_size) 24 [] []) h (fun h => ?_) (fun k24 hk24 h => ?_)
    · refine r_iconst C (pc := 24) dX4_isSplit_24 ?_
      exact hk25 0 h
    · refine r_if_le C (pc := 1) 24 dX4_isSplit_1 rfl h (fun c1 h => ?_) (fun c1 h => ?_)
      · refine r_sub [] rfl ?_
        exact hk24 h
      · refine r_iload_n C (pc := 4) dX4_isSplit_4 rfl 1 rfl ?_
        refine r_iconst C (pc := 5) dX4_isSplit_5 ?_
        refine r_iand C (pc := 6) dX4_isSplit_6 ?_
        refine r_if_ne C (pc := 7) 24 dX4_isSplit_7 rfl h (fun c7 h => ?_) (fun c7 h => ?_)
        · refine r_sub [] rfl ?_
          exact hk24 h
        · refine r_iload_n C (pc := 10) dX4_isSplit_10 rfl 1 rfl ?_
          refine r_iconst C (pc := 11) dX4_isSplit_11 ?_
          refine r_aload_n C (pc := 12) dX4_isSplit_12 rfl 0 rfl ?_
          refine r_get C (pc := 13) dX4_isSplit_13 gf_X4_isSplit_28 0 rfl rfl ?_
          refine r_ishl C (pc := 16) dX4_isSplit_16 ?_
          refine r_icmp_ge C (pc := 17) 24 dX4_isSplit_17 rfl h (fun c17 h => ?_) (fun c17 h => ?_)
          · refine r_sub [] rfl ?_
            exact hk24 h
          · refine r_iconst C (pc := 20) dX4_isSplit_20 ?_
            refine r_goto C (pc := 21) 25 dX4_isSplit_21 rfl ?_
            refine r_sub [] rfl ?_
            exact hk25 1 h
theorem c_X4_isSplit (l : Launch) (G : gG) (a_this : Nat) (a_this_gaps : Nat) (c_this_size : Int) (p1 : Int) (r : Int) (hf : f_X4_isSplit p1 c_this_size = some r) : CTi l yX4_isSplit wsX4_isSplit rm_X4_isSplit G (w_X4_isSplit G a_this a_this_gaps c_this_size) [.ref a_this, .int (jz p1)] (jz r) (w_X4_isSplit G a_this a_this_gaps c_this_size) := CTi_of (by decide) rfl rfl (Nat.le_of_ble_eq_true rfl) (fun g C hG hl hF => by
    subst hG
    subst hl
    exact k_X4_isSplit C a_this a_this_gaps c_this_size p1 (fun x => x = r) (fun r' e => by cases e; exact hF) ⟨_, hf, rfl⟩)

-- TightHulls$Table.weightBy(III)I
def f_X4_weightBy (p1 : Int) (p2 : Int) (p3 : Int) (c_this_size : Int) (c_this_gaps : Nat → Int) : Option Int := lq2 (fun (n8 : Int → Int → Option Int) (v4_8 : Int) (v5_8 : Int) => if ltI v5_8 c_this_size = true then (lq2 (fun (n21 : Int → Int → Option Int) (v4_21 : Int) (v6_21 : Int) => if ltI v6_21 c_this_size = true then (jn (fun (v4_117 : Int) => n21 v4_117 (v6_21 + 1)) (fun (k117 : Int → Option Int) => if eqI (andI (shrI p1 v5_8) 1) 0 = true then (if eqI (andI (shrI p1 v6_21) 1) 0 = true then (bd1 (f_X4_gap p2 p3 c_this_size c_this_gaps) (fun r51 => bd1 (f_X4_gap v5_8 v6_21 c_this_size c_this_gaps) (fun r59 => lv ((r51 + r59)) (fun x63 => bd1 (f_X4_gap p2 v5_8 c_this_size c_this_gaps) (fun r69 => bd1 (f_X4_gap p3 v6_21 c_this_size c_this_gaps) (fun r76 => bd1 (f_X4_gap p2 v6_21 c_this_size c_this_gaps) (fun r84 => bd1 (f_X4_gap p3 v5_8 c_this_size c_this_gaps) (fun r91 => lv ((maxI (r69 + r76) (r84 + r91))) (fun x98 => lv ((minI v4_21 ((maxI x63 x98) - x63))) (fun x115 => k117 x115)))))))))) else (k117 v4_21)) else (k117 v4_21))) else (n8 v4_21 (v5_8 + 1))) 300 v4_8 v5_8) else (some v4_8)) 300 1000 0
abbrev rm_X4_weightBy : Room := { frames := 1, cells := 0, slots := 0, locals := 60 }
abbrev w_X4_weightBy (G : gG) (a_this : Nat) (a_this_gaps : Nat) (c_this_size : Int) (c_this_gaps : Nat → Int) : va_W := [(a_this, .inr (4, [.int (jz c_this_size), .ref a_this_gaps])), (a_this_gaps, aI G 25 c_this_gaps)]
theorem hd_X4_weightBy : yX4_weightBy.cls = RX4 ∧ yX4_weightBy.cls ≠ "java/lang/invoke/MethodHandle" ∧ yX4_weightBy.cls ≠ "java/lang/invoke/VarHandle" ∧ (parseMethodDescriptor yX4_weightBy.desc).map (fun d => d.parameters.length) = some 3 := by decide +kernel
theorem in_X4_weightBy_X4 : ∀ w ∈ u_ws RX4 TX4 2, w ∈ wsX4_weightBy := fun w h => List.mem_cons_of_mem _ (List.mem_append_right _ (h))
theorem gf_X4_weightBy_28 : GF wsX4_weightBy RX4 28 4 0 := ⟨RX4, TX4, 2, rfl, in_X4_weightBy_X4, by decide, List.mem_of_getElem? (i := 1) rfl⟩
theorem mm_X4_weightBy_2 : Cond.methodLink RX4 25 Lib.Math.max.name ∈ wsX4_weightBy := List.mem_of_getElem? (i := 2) rfl
theorem mm_X4_weightBy_3 : Cond.static Lib.Math.max.name ∈ wsX4_weightBy := List.mem_of_getElem? (i := 3) rfl
theorem mm_X4_weightBy_4 : Cond.initialized "java/lang/Math" ∈ wsX4_weightBy := List.mem_of_getElem? (i := 4) rfl
theorem mm_X4_weightBy_5 : Cond.code Lib.Math.max.name Lib.Math.max.code 2 (some .int) ∈ wsX4_weightBy := List.mem_of_getElem? (i := 5) rfl
theorem mm_X4_weightBy_6 : Cond.methodLink RX4 19 Lib.Math.min.name ∈ wsX4_weightBy := List.mem_of_getElem? (i := 6) rfl
theorem mm_X4_weightBy_7 : Cond.static Lib.Math.min.name ∈ wsX4_weightBy := List.mem_of_getElem? (i := 7) rfl
theorem mm_X4_weightBy_8 : Cond.code Lib.Math.min.name Lib.Math.min.code 2 (some .int) ∈ wsX4_weightBy := List.mem_of_getElem? (i := 8) rfl
set_option maxRecDepth 100000 in
set_option maxHeartbeats 4000000 in
theorem k_X4_weightBy {g : XC} (C : XOk g cX4_weightBy RX4 wsX4_weightBy rm_X4_weightBy 9) (a_this : Nat) (a_this_gaps : Nat) (c_this_size : Int) (c_this_gaps : Nat → Int) (p1 : Int) (p2 : Int) (p3 : Int) (K : Int → Prop) (hK : ∀ (r : Int), K r → (narrow .int (.int (jz r)) = .int (jz r) → FinI g 0 0 (w_X4_weightBy (xG g) a_this a_this_gaps c_this_size c_this_gaps) (jz r))) (h : wp (f_X4_weightBy p1 p2 p3 c_this_size c_this_gaps) K) : WW g 0 0 (w_X4_weightBy (xG g) a_this a_this_gaps c_this_size c_this_gaps) 0 [(0, .ref a_this), (1, .int (jz p1)), (2, .int (jz p2)), (3, .int (jz p3))] [] := by
  unfold f_X4_weightBy at h
  refine r_sipush C (pc := 0) dX4_weightBy_0 rfl ?_
  refine r_istore C (pc := 3) dX4_weightBy_3 (by decide) (L' := [(0, .ref a_this), (1, .int (jz p1)), (2, .int (jz p2)), (3, .int (jz p3)), (4, .int (jz 1000))]) rfl ?_
  refine r_iconst C (pc := 5) dX4_weightBy_5 ?_
  refine r_istore C (pc := 6) dX4_weightBy_6 (by decide) (L' := [(0, .ref a_this), (1, .int (jz p1)), (2, .int (jz p2)), (3, .int (jz p3)), (4, .int (jz 1000)), (5, .int (jz 0))]) rfl ?_
  refine lq2_e (fun (v4_8 : Int) (v5_8 : Int) => WW g 0 0 (w_X4_weightBy (xG g) a_this a_this_gaps c_this_size c_this_gaps) 8 [(0, .ref a_this), (1, .int (jz p1)), (2, .int (jz p2)), (3, .int (jz p3)), (4, .int (jz v4_8)), (5, .int (jz v5_8))] []) h (fun n8 hn8 v4_8 v5_8 h => ?_)
  refine r_iload C (pc := 8) dX4_weightBy_8 5 rfl ?_
  refine r_aload_n C (pc := 10) dX4_weightBy_10 rfl 0 rfl ?_
  refine r_get C (pc := 11) dX4_weightBy_11 gf_X4_weightBy_28 0 rfl rfl ?_
  refine r_icmp_ge C (pc := 14) 129 dX4_weightBy_14 rfl h (fun c14 h => ?_) (fun c14 h => ?_)
  · refine r_iload C (pc := 129) dX4_weightBy_129 4 rfl ?_
    exact r_iret C (pc := 131) dX4_weightBy_131 (hK v4_8 (wp_s h) rfl)
  · refine r_iload C (pc := 17) dX4_weightBy_17 5 rfl ?_
    refine r_istore C (pc := 19) dX4_weightBy_19 (by decide) (L' := [(0, .ref a_this), (1, .int (jz p1)), (2, .int (jz p2)), (3, .int (jz p3)), (4, .int (jz v4_8)), (5, .int (jz v5_8)), (6, .int (jz v5_8))]) rfl ?_
    refine lq2_e (fun (v4_21 : Int) (v6_21 : Int) => WW g 0 0 (w_X4_weightBy (xG g) a_this a_this_gaps c_this_size c_this_gaps) 21 [(0, .ref a_this), (1, .int (jz p1)), (2, .int (jz p2)), (3, .int (jz p3)), (4, .int (jz v4_21)), (5, .int (jz v5_8)), (6, .int (jz v6_21))] []) h (fun n21 hn21 v4_21 v6_21 h => ?_)
    refine r_iload C (pc := 21) dX4_weightBy_21 6 rfl ?_
    refine r_aload_n C (pc := 23) dX4_weightBy_23 rfl 0 rfl ?_
    refine r_get C (pc := 24) dX4_weightBy_24 gf_X4_weightBy_28 0 rfl rfl ?_
    refine r_icmp_ge C (pc := 27) 123 dX4_weightBy_27 rfl h (fun c27 h => ?_) (fun c27 h => ?_)
    · refine r_iinc C (pc := 123) dX4_weightBy_123 5 rfl (by decide) (L' := [(0, .ref a_this), (1, .int (jz p1)), (2, .int (jz p2)), (3, .int (jz p3)), (4, .int (jz v4_21)), (5, .int (jz (v5_8 + 1))), (6, .int (jz v6_21))]) rfl ?_
      refine r_goto C (pc := 126) 8 dX4_weightBy_126 rfl ?_
      refine r_sub [0, 1, 2, 3, 4, 5] rfl ?_
      exact hn8 v4_21 (v5_8 + 1) h
    · refine r_iload_n C (pc := 30) dX4_weightBy_30 rfl 1 rfl ?_
      refine r_iload C (pc := 31) dX4_weightBy_31 5 rfl ?_
      refine r_ishr C (pc := 33) dX4_weightBy_33 ?_
      refine r_iconst C (pc := 34) dX4_weightBy_34 ?_
      refine r_iand C (pc := 35) dX4_weightBy_35 ?_
      refine jn_e (fun (k117 : Int → Option Int) => ∀ (v4_117 : Int), wp (k117 v4_117) K → WW g 0 0 (w_X4_weightBy (xG g) a_this a_this_gaps c_this_size c_this_gaps) 117 [(0, .ref a_this), (1, .int (jz p1)), (2, .int (jz p2)), (3, .int (jz p3)), (4, .int (jz v4_117)), (5, .int (jz v5_8)), (6, .int (jz v6_21))] []) h (fun v4_117 h => ?_) (fun k117 hk117 h => ?_)
      · refine r_iinc C (pc := 117) dX4_weightBy_117 6 rfl (by decide) (L' := [(0, .ref a_this), (1, .int (jz p1)), (2, .int (jz p2)), (3, .int (jz p3)), (4, .int (jz v4_117)), (5, .int (jz v5_8)), (6, .int (jz (v6_21 + 1)))]) rfl ?_
        refine r_goto C (pc := 120) 21 dX4_weightBy_120 rfl ?_
        exact hn21 v4_117 (v6_21 + 1) h
      · refine r_if_ne C (pc := 36) 117 dX4_weightBy_36 rfl h (fun c36 h => ?_) (fun c36 h => ?_)
        · exact hk117 v4_21 h
        · refine r_iload_n C (pc := 39) dX4_weightBy_39 rfl 1 rfl ?_
          refine r_iload C (pc := 40) dX4_weightBy_40 6 rfl ?_
          refine r_ishr C (pc := 42) dX4_weightBy_42 ?_
          refine r_iconst C (pc := 43) dX4_weightBy_43 ?_
          refine r_iand C (pc := 44) dX4_weightBy_44 ?_
          refine r_if_ne C (pc := 45) 117 dX4_weightBy_45 rfl h (fun c45 h => ?_) (fun c45 h => ?_)
          · exact hk117 v4_21 h
          · refine r_aload_n C (pc := 48) dX4_weightBy_48 rfl 0 rfl ?_
            refine r_iload_n C (pc := 49) dX4_weightBy_49 rfl 2 rfl ?_
            refine r_iload_n C (pc := 50) dX4_weightBy_50 rfl 3 rfl ?_
            obtain ⟨r51, e51, h⟩ := wp_b1 h
            refine b_cVi C (pc := 51) dX4_weightBy_51 (c_X4_gap (xl g) (xG g) a_this a_this_gaps c_this_size c_this_gaps p2 p3 r51 e51) rfl gX4_weightBy_X4_gap ⟨rfl, rfl⟩ 2 hd_X4_gap ⟨Nat.le_of_ble_eq_true rfl, Nat.le_of_ble_eq_true rfl⟩ rfl 0 rfl rfl rfl [0, 1] rfl (srt_nd 0 rfl) (ws' := w_X4_weightBy (xG g) a_this a_this_gaps c_this_size c_this_gaps) (Put.m rfl rfl rfl) rfl (rest := []) rfl (Nat.le_of_ble_eq_true rfl) ⟨Nat.zero_le _, Nat.zero_le _⟩ ?_
            refine r_aload_n C (pc := 54) dX4_weightBy_54 rfl 0 rfl ?_
            refine r_iload C (pc := 55) dX4_weightBy_55 5 rfl ?_
            refine r_iload C (pc := 57) dX4_weightBy_57 6 rfl ?_
            obtain ⟨r59, e59, h⟩ := wp_b1 h
            refine b_cVi C (pc := 59) dX4_weightBy_59 (c_X4_gap (xl g) (xG g) a_this a_this_gaps c_this_size c_this_gaps v5_8 v6_21 r59 e59) rfl gX4_weightBy_X4_gap ⟨rfl, rfl⟩ 2 hd_X4_gap ⟨Nat.le_of_ble_eq_true rfl, Nat.le_of_ble_eq_true rfl⟩ rfl 0 rfl rfl rfl [0, 1] rfl (srt_nd 0 rfl) (ws' := w_X4_weightBy (xG g) a_this a_this_gaps c_this_size c_this_gaps) (Put.m rfl rfl rfl) rfl (rest := [.int (jz r51)]) rfl (Nat.le_of_ble_eq_true rfl) ⟨Nat.zero_le _, Nat.zero_le _⟩ ?_
            refine r_iadd C (pc := 62) dX4_weightBy_62 ?_
            refine r_let h (fun x63 h => ?_)
            refine r_istore C (pc := 63) dX4_weightBy_63 (by decide) (L' := [(0, .ref a_this), (1, .int (jz p1)), (2, .int (jz p2)), (3, .int (jz p3)), (4, .int (jz v4_21)), (5, .int (jz v5_8)), (6, .int (jz v6_21)), (7, .int (jz x63))]) rfl ?_
            refine r_aload_n C (pc := 65) dX4_weightBy_65 rfl 0 rfl ?_
            refine r_iload_n C (pc := 66) dX4_weightBy_66 rfl 2 rfl ?_
            refine r_iload C (pc := 67) dX4_weightBy_67 5 rfl ?_
            obtain ⟨r69, e69, h⟩ := wp_b1 h
            refine b_cVi C (pc := 69) dX4_weightBy_69 (c_X4_gap (xl g) (xG g) a_this a_this_gaps c_this_size c_this_gaps p2 v5_8 r69 e69) rfl gX4_weightBy_X4_gap ⟨rfl, rfl⟩ 2 hd_X4_gap ⟨Nat.le_of_ble_eq_true rfl, Nat.le_of_ble_eq_true rfl⟩ rfl 0 rfl rfl rfl [0, 1] rfl (srt_nd 0 rfl) (ws' := w_X4_weightBy (xG g) a_this a_this_gaps c_this_size c_this_gaps) (Put.m rfl rfl rfl) rfl (rest := []) rfl (Nat.le_of_ble_eq_true rfl) ⟨Nat.zero_le _, Nat.zero_le _⟩ ?_
            refine r_aload_n C (pc := 72) dX4_weightBy_72 rfl 0 rfl ?_
            refine r_iload_n C (pc := 73) dX4_weightBy_73 rfl 3 rfl ?_
            refine r_iload C (pc := 74) dX4_weightBy_74 6 rfl ?_
            obtain ⟨r76, e76, h⟩ := wp_b1 h
            refine b_cVi C (pc := 76) dX4_weightBy_76 (c_X4_gap (xl g) (xG g) a_this a_this_gaps c_this_size c_this_gaps p3 v6_21 r76 e76) rfl gX4_weightBy_X4_gap ⟨rfl, rfl⟩ 2 hd_X4_gap ⟨Nat.le_of_ble_eq_true rfl, Nat.le_of_ble_eq_true rfl⟩ rfl 0 rfl rfl rfl [0, 1] rfl (srt_nd 0 rfl) (ws' := w_X4_weightBy (xG g) a_this a_this_gaps c_this_size c_this_gaps) (Put.m rfl rfl rfl) rfl (rest := [.int (jz r69)]) rfl (Nat.le_of_ble_eq_true rfl) ⟨Nat.zero_le _, Nat.zero_le _⟩ ?_
            refine r_iadd C (pc := 79) dX4_weightBy_79 ?_
            refine r_aload_n C (pc := 80) dX4_weightBy_80 rfl 0 rfl ?_
            refine r_iload_n C (pc := 81) dX4_weightBy_81 rfl 2 rfl ?_
            refine r_iload C (pc := 82) dX4_weightBy_82 6 rfl ?_
            obtain ⟨r84, e84, h⟩ := wp_b1 h
            refine b_cVi C (pc := 84) dX4_weightBy_84 (c_X4_gap (xl g) (xG g) a_this a_this_gaps c_this_size c_this_gaps p2 v6_21 r84 e84) rfl gX4_weightBy_X4_gap ⟨rfl, rfl⟩ 2 hd_X4_gap ⟨Nat.le_of_ble_eq_true rfl, Nat.le_of_ble_eq_true rfl⟩ rfl 0 rfl rfl rfl [0, 1] rfl (srt_nd 0 rfl) (ws' := w_X4_weightBy (xG g) a_this a_this_gaps c_this_size c_this_gaps) (Put.m rfl rfl rfl) rfl (rest := [.int (jz (r69 + r76))]) rfl (Nat.le_of_ble_eq_true rfl) ⟨Nat.zero_le _, Nat.zero_le _⟩ ?_
            refine r_aload_n C (pc := 87) dX4_weightBy_87 rfl 0 rfl ?_
            refine r_iload_n C (pc := 88) dX4_weightBy_88 rfl 3 rfl ?_
            refine r_iload C (pc := 89) dX4_weightBy_89 5 rfl ?_
            obtain ⟨r91, e91, h⟩ := wp_b1 h
            refine b_cVi C (pc := 91) dX4_weightBy_91 (c_X4_gap (xl g) (xG g) a_this a_this_gaps c_this_size c_this_gaps p3 v5_8 r91 e91) rfl gX4_weightBy_X4_gap ⟨rfl, rfl⟩ 2 hd_X4_gap ⟨Nat.le_of_ble_eq_true rfl, Nat.le_of_ble_eq_true rfl⟩ rfl 0 rfl rfl rfl [0, 1] rfl (srt_nd 0 rfl) (ws' := w_X4_weightBy (xG g) a_this a_this_gaps c_this_size c_this_gaps) (Put.m rfl rfl rfl) rfl (rest := [.int (jz r84), .int (jz (r69 + r76))]) rfl (Nat.le_of_ble_eq_true rfl) ⟨Nat.zero_le _, Nat.zero_le _⟩ ?_
            refine r_iadd C (pc := 94) dX4_weightBy_94 ?_
            refine r_mmax C (pc := 95) dX4_weightBy_95 mm_X4_weightBy_2 mm_X4_weightBy_3 mm_X4_weightBy_4 mm_X4_weightBy_5 (Nat.le_of_ble_eq_true rfl) (Nat.le_of_ble_eq_true rfl) ⟨Nat.zero_le _, Nat.zero_le _⟩ ?_
            refine r_let h (fun x98 h => ?_)
            refine r_istore C (pc := 98) dX4_weightBy_98 (by decide) (L' := [(0, .ref a_this), (1, .int (jz p1)), (2, .int (jz p2)), (3, .int (jz p3)), (4, .int (jz v4_21)), (5, .int (jz v5_8)), (6, .int (jz v6_21)), (7, .int (jz x63)), (8, .int (jz x98))]) rfl ?_
            refine r_iload C (pc := 100) dX4_weightBy_100 4 rfl ?_
            refine r_iload C (pc := 102) dX4_weightBy_102 7 rfl ?_
            refine r_iload C (pc := 104) dX4_weightBy_104 8 rfl ?_
            refine r_mmax C (pc := 106) dX4_weightBy_106 mm_X4_weightBy_2 mm_X4_weightBy_3 mm_X4_weightBy_4 mm_X4_weightBy_5 (Nat.le_of_ble_eq_true rfl) (Nat.le_of_ble_eq_true rfl) ⟨Nat.zero_le _, Nat.zero_le _⟩ ?_
            refine r_iload C (pc := 109) dX4_weightBy_109 7 rfl ?_
            refine r_isub C (pc := 111) dX4_weightBy_111 ?_
            refine r_mmin C (pc := 112) dX4_weightBy_112 mm_X4_weightBy_6 mm_X4_weightBy_7 mm_X4_weightBy_4 mm_X4_weightBy_8 (Nat.le_of_ble_eq_true rfl) (Nat.le_of_ble_eq_true rfl) ⟨Nat.zero_le _, Nat.zero_le _⟩ ?_
            refine r_let h (fun x115 h => ?_)
            refine r_istore C (pc := 115) dX4_weightBy_115 (by decide) (L' := [(0, .ref a_this), (1, .int (jz p1)), (2, .int (jz p2)), (3, .int (jz p3)), (4, .int (jz x115)), (5, .int (jz v5_8)), (6, .int (jz v6_21)), (7, .int (jz x63)), (8, .int (jz x98))]) rfl ?_
            refine r_sub [0, 1, 2, 3, 4, 5, 6] rfl ?_
            exact hk117 x115 h
theorem c_X4_weightBy (l : Launch) (G : gG) (a_this : Nat) (a_this_gaps : Nat) (c_this_size : Int) (c_this_gaps : Nat → Int) (p1 : Int) (p2 : Int) (p3 : Int) (r : Int) (hf : f_X4_weightBy p1 p2 p3 c_this_size c_this_gaps = some r) : CTi l yX4_weightBy wsX4_weightBy rm_X4_weightBy G (w_X4_weightBy G a_this a_this_gaps c_this_size c_this_gaps) [.ref a_this, .int (jz p1), .int (jz p2), .int (jz p3)] (jz r) (w_X4_weightBy G a_this a_this_gaps c_this_size c_this_gaps) := CTi_of (by decide) rfl rfl (Nat.le_of_ble_eq_true rfl) (fun g C hG hl hF => by
    subst hG
    subst hl
    exact k_X4_weightBy C a_this a_this_gaps c_this_size c_this_gaps p1 p2 p3 (fun x => x = r) (fun r' e => by cases e; exact hF) ⟨_, hf, rfl⟩)

-- TightHulls$Table.weightOf(I)I
def f_X4_weightOf (p1 : Int) (c_this_size : Int) (c_this_gaps : Nat → Int) : Option Int := lq2 (fun (n6 : Int → Int → Option Int) (v2_6 : Int) (v3_6 : Int) => if ltI v3_6 c_this_size = true then (lq2 (fun (n17 : Int → Int → Option Int) (v2_17 : Int) (v4_17 : Int) => if ltI v4_17 c_this_size = true then (jn (fun (v2_58 : Int) => n17 v2_58 (v4_17 + 1)) (fun (k58 : Int → Option Int) => if eqI (andI (shrI p1 v3_6) 1) 1 = true then (if eqI (andI (shrI p1 v4_17) 1) 1 = true then (bd1 (f_X4_weightBy p1 v3_6 v4_17 c_this_size c_this_gaps) (fun r51 => lv ((minI v2_17 r51)) (fun x57 => k58 x57))) else (k58 v2_17)) else (k58 v2_17))) else (n6 v2_17 (v3_6 + 1))) 300 v2_6 v3_6) else (some v2_6)) 300 1000 0
abbrev rm_X4_weightOf : Room := { frames := 2, cells := 0, slots := 0, locals := 88 }
abbrev w_X4_weightOf (G : gG) (a_this : Nat) (a_this_gaps : Nat) (c_this_size : Int) (c_this_gaps : Nat → Int) : va_W := [(a_this, .inr (4, [.int (jz c_this_size), .ref a_this_gaps])), (a_this_gaps, aI G 25 c_this_gaps)]
theorem hd_X4_weightOf : yX4_weightOf.cls = RX4 ∧ yX4_weightOf.cls ≠ "java/lang/invoke/MethodHandle" ∧ yX4_weightOf.cls ≠ "java/lang/invoke/VarHandle" ∧ (parseMethodDescriptor yX4_weightOf.desc).map (fun d => d.parameters.length) = some 1 := by decide +kernel
theorem in_X4_weightOf_X4 : ∀ w ∈ u_ws RX4 TX4 2, w ∈ wsX4_weightOf := fun w h => List.mem_cons_of_mem _ (List.mem_append_right _ (h))
theorem gf_X4_weightOf_28 : GF wsX4_weightOf RX4 28 4 0 := ⟨RX4, TX4, 2, rfl, in_X4_weightOf_X4, by decide, List.mem_of_getElem? (i := 1) rfl⟩
theorem mm_X4_weightOf_2 : Cond.methodLink RX4 19 Lib.Math.min.name ∈ wsX4_weightOf := List.mem_of_getElem? (i := 2) rfl
theorem mm_X4_weightOf_3 : Cond.static Lib.Math.min.name ∈ wsX4_weightOf := List.mem_of_getElem? (i := 3) rfl
theorem mm_X4_weightOf_4 : Cond.initialized "java/lang/Math" ∈ wsX4_weightOf := List.mem_of_getElem? (i := 4) rfl
theorem mm_X4_weightOf_5 : Cond.code Lib.Math.min.name Lib.Math.min.code 2 (some .int) ∈ wsX4_weightOf := List.mem_of_getElem? (i := 5) rfl
set_option maxRecDepth 100000 in
set_option maxHeartbeats 4000000 in
theorem k_X4_weightOf {g : XC} (C : XOk g cX4_weightOf RX4 wsX4_weightOf rm_X4_weightOf 5) (a_this : Nat) (a_this_gaps : Nat) (c_this_size : Int) (c_this_gaps : Nat → Int) (p1 : Int) (K : Int → Prop) (hK : ∀ (r : Int), K r → (narrow .int (.int (jz r)) = .int (jz r) → FinI g 0 0 (w_X4_weightOf (xG g) a_this a_this_gaps c_this_size c_this_gaps) (jz r))) (h : wp (f_X4_weightOf p1 c_this_size c_this_gaps) K) : WW g 0 0 (w_X4_weightOf (xG g) a_this a_this_gaps c_this_size c_this_gaps) 0 [(0, .ref a_this), (1, .int (jz p1))] [] := by
  unfold f_X4_weightOf at h
  refine r_sipush C (pc := 0) dX4_weightOf_0 rfl ?_
  refine r_istore_n C (pc := 3) dX4_weightOf_3 rfl (by decide) (L' := [(0, .ref a_this), (1, .int (jz p1)), (2, .int (jz 1000))]) rfl ?_
  refine r_iconst C (pc := 4) dX4_weightOf_4 ?_
  refine r_istore_n C (pc := 5) dX4_weightOf_5 rfl (by decide) (L' := [(0, .ref a_this), (1, .int (jz p1)), (2, .int (jz 1000)), (3, .int (jz 0))]) rfl ?_
  refine lq2_e (fun (v2_6 : Int) (v3_6 : Int) => WW g 0 0 (w_X4_weightOf (xG g) a_this a_this_gaps c_this_size c_this_gaps) 6 [(0, .ref a_this), (1, .int (jz p1)), (2, .int (jz v2_6)), (3, .int (jz v3_6))] []) h (fun n6 hn6 v2_6 v3_6 h => ?_)
  refine r_iload_n C (pc := 6) dX4_weightOf_6 rfl 3 rfl ?_
  refine r_aload_n C (pc := 7) dX4_weightOf_7 rfl 0 rfl ?_
  refine r_get C (pc := 8) dX4_weightOf_8 gf_X4_weightOf_28 0 rfl rfl ?_
  refine r_icmp_ge C (pc := 11) 70 dX4_weightOf_11 rfl h (fun c11 h => ?_) (fun c11 h => ?_)
  · refine r_iload_n C (pc := 70) dX4_weightOf_70 rfl 2 rfl ?_
    exact r_iret C (pc := 71) dX4_weightOf_71 (hK v2_6 (wp_s h) rfl)
  · refine r_iload_n C (pc := 14) dX4_weightOf_14 rfl 3 rfl ?_
    refine r_istore C (pc := 15) dX4_weightOf_15 (by decide) (L' := [(0, .ref a_this), (1, .int (jz p1)), (2, .int (jz v2_6)), (3, .int (jz v3_6)), (4, .int (jz v3_6))]) rfl ?_
    refine lq2_e (fun (v2_17 : Int) (v4_17 : Int) => WW g 0 0 (w_X4_weightOf (xG g) a_this a_this_gaps c_this_size c_this_gaps) 17 [(0, .ref a_this), (1, .int (jz p1)), (2, .int (jz v2_17)), (3, .int (jz v3_6)), (4, .int (jz v4_17))] []) h (fun n17 hn17 v2_17 v4_17 h => ?_)
    refine r_iload C (pc := 17) dX4_weightOf_17 4 rfl ?_
    refine r_aload_n C (pc := 19) dX4_weightOf_19 rfl 0 rfl ?_
    refine r_get C (pc := 20) dX4_weightOf_20 gf_X4_weightOf_28 0 rfl rfl ?_
    refine r_icmp_ge C (pc := 23) 64 dX4_weightOf_23 rfl h (fun c23 h => ?_) (fun c23 h => ?_)
    · refine r_iinc C (pc := 64) dX4_weightOf_64 3 rfl (by decide) (L' := [(0, .ref a_this), (1, .int (jz p1)), (2, .int (jz v2_17)), (3, .int (jz (v3_6 + 1))), (4, .int (jz v4_17))]) rfl ?_
      refine r_goto C (pc := 67) 6 dX4_weightOf_67 rfl ?_
      refine r_sub [0, 1, 2, 3] rfl ?_
      exact hn6 v2_17 (v3_6 + 1) h
    · refine r_iload_n C (pc := 26) dX4_weightOf_26 rfl 1 rfl ?_
      refine r_iload_n C (pc := 27) dX4_weightOf_27 rfl 3 rfl ?_
      refine r_ishr C (pc := 28) dX4_weightOf_28 ?_
      refine r_iconst C (pc := 29) dX4_weightOf_29 ?_
      refine r_iand C (pc := 30) dX4_weightOf_30 ?_
      refine r_iconst C (pc := 31) dX4_weightOf_31 ?_
      refine jn_e (fun (k58 : Int → Option Int) => ∀ (v2_58 : Int), wp (k58 v2_58) K → WW g 0 0 (w_X4_weightOf (xG g) a_this a_this_gaps c_this_size c_this_gaps) 58 [(0, .ref a_this), (1, .int (jz p1)), (2, .int (jz v2_58)), (3, .int (jz v3_6)), (4, .int (jz v4_17))] []) h (fun v2_58 h => ?_) (fun k58 hk58 h => ?_)
      · refine r_iinc C (pc := 58) dX4_weightOf_58 4 rfl (by decide) (L' := [(0, .ref a_this), (1, .int (jz p1)), (2, .int (jz v2_58)), (3, .int (jz v3_6)), (4, .int (jz (v4_17 + 1)))]) rfl ?_
        refine r_goto C (pc := 61) 17 dX4_weightOf_61 rfl ?_
        exact hn17 v2_58 (v4_17 + 1) h
      · refine r_icmp_ne C (pc := 32) 58 dX4_weightOf_32 rfl h (fun c32 h => ?_) (fun c32 h => ?_)
        · exact hk58 v2_17 h
        · refine r_iload_n C (pc := 35) dX4_weightOf_35 rfl 1 rfl ?_
          refine r_iload C (pc := 36) dX4_weightOf_36 4 rfl ?_
          refine r_ishr C (pc := 38) dX4_weightOf_38 ?_
          refine r_iconst C (pc := 39) dX4_weightOf_39 ?_
          refine r_iand C (pc := 40) dX4_weightOf_40 ?_
          refine r_iconst C (pc := 41) dX4_weightOf_41 ?_
          refine r_icmp_ne C (pc := 42) 58 dX4_weightOf_42 rfl h (fun c42 h => ?_) (fun c42 h => ?_)
          · exact hk58 v2_17 h
          · refine r_iload_n C (pc := 45) dX4_weightOf_45 rfl 2 rfl ?_
            refine r_aload_n C (pc := 46) dX4_weightOf_46 rfl 0 rfl ?_
            refine r_iload_n C (pc := 47) dX4_weightOf_47 rfl 1 rfl ?_
            refine r_iload_n C (pc := 48) dX4_weightOf_48 rfl 3 rfl ?_
            refine r_iload C (pc := 49) dX4_weightOf_49 4 rfl ?_
            obtain ⟨r51, e51, h⟩ := wp_b1 h
            refine b_cVi C (pc := 51) dX4_weightOf_51 (c_X4_weightBy (xl g) (xG g) a_this a_this_gaps c_this_size c_this_gaps p1 v3_6 v4_17 r51 e51) rfl gX4_weightOf_X4_weightBy ⟨rfl, rfl⟩ 3 hd_X4_weightBy ⟨Nat.le_of_ble_eq_true rfl, Nat.le_of_ble_eq_true rfl⟩ rfl 0 rfl rfl rfl [0, 1] rfl (srt_nd 0 rfl) (ws' := w_X4_weightOf (xG g) a_this a_this_gaps c_this_size c_this_gaps) (Put.m rfl rfl rfl) rfl (rest := [.int (jz v2_17)]) rfl (Nat.le_of_ble_eq_true rfl) ⟨Nat.zero_le _, Nat.zero_le _⟩ ?_
            refine r_mmin C (pc := 54) dX4_weightOf_54 mm_X4_weightOf_2 mm_X4_weightOf_3 mm_X4_weightOf_4 mm_X4_weightOf_5 (Nat.le_of_ble_eq_true rfl) (Nat.le_of_ble_eq_true rfl) ⟨Nat.zero_le _, Nat.zero_le _⟩ ?_
            refine r_let h (fun x57 h => ?_)
            refine r_istore_n C (pc := 57) dX4_weightOf_57 rfl (by decide) (L' := [(0, .ref a_this), (1, .int (jz p1)), (2, .int (jz x57)), (3, .int (jz v3_6)), (4, .int (jz v4_17))]) rfl ?_
            exact hk58 x57 h
theorem c_X4_weightOf (l : Launch) (G : gG) (a_this : Nat) (a_this_gaps : Nat) (c_this_size : Int) (c_this_gaps : Nat → Int) (p1 : Int) (r : Int) (hf : f_X4_weightOf p1 c_this_size c_this_gaps = some r) : CTi l yX4_weightOf wsX4_weightOf rm_X4_weightOf G (w_X4_weightOf G a_this a_this_gaps c_this_size c_this_gaps) [.ref a_this, .int (jz p1)] (jz r) (w_X4_weightOf G a_this a_this_gaps c_this_size c_this_gaps) := CTi_of (by decide) rfl rfl (Nat.le_of_ble_eq_true rfl) (fun g C hG hl hF => by
    subst hG
    subst hl
    exact k_X4_weightOf C a_this a_this_gaps c_this_size c_this_gaps p1 (fun x => x = r) (fun r' e => by cases e; exact hF) ⟨_, hf, rfl⟩)

-- TightHulls$Table.takeShortWays()V
def f_X4_takeShortWays (c_this_size : Int) (c_this_gaps : Nat → Int) : Option (Nat → Int) := lq2 (fun (n2 : Int → (Nat → Int) → Option (Nat → Int)) (v1_2 : Int) (this_gaps_2 : Nat → Int) => if ltI v1_2 c_this_size = true then (lq2 (fun (n12 : Int → (Nat → Int) → Option (Nat → Int)) (v2_12 : Int) (this_gaps_12 : Nat → Int) => if ltI v2_12 c_this_size = true then (lv ((v2_12 + 1)) (fun x23 => lq2 (fun (n24 : Int → (Nat → Int) → Option (Nat → Int)) (v3_24 : Int) (this_gaps_24 : Nat → Int) => if ltI v3_24 c_this_size = true then (bd1 (f_X4_gap v2_12 v3_24 c_this_size this_gaps_24) (fun r38 => bd1 (f_X4_gap v2_12 v1_2 c_this_size this_gaps_24) (fun r44 => bd1 (f_X4_gap v1_2 v3_24 c_this_size this_gaps_24) (fun r50 => bd1 (f_X4_put v2_12 v3_24 (minI r38 (r44 + r50)) c_this_size this_gaps_24) (fun this_gaps_57 => n24 (v3_24 + 1) this_gaps_57))))) else (n12 (v2_12 + 1) this_gaps_24)) 300 x23 this_gaps_12)) else (n2 (v1_2 + 1) this_gaps_12)) 300 0 this_gaps_2) else (some this_gaps_2)) 300 0 c_this_gaps
abbrev rm_X4_takeShortWays : Room := { frames := 2, cells := 0, slots := 0, locals := 60 }
abbrev w_X4_takeShortWays (G : gG) (a_this : Nat) (a_this_gaps : Nat) (c_this_size : Int) (c_this_gaps : Nat → Int) : va_W := [(a_this, .inr (4, [.int (jz c_this_size), .ref a_this_gaps])), (a_this_gaps, aI G 25 c_this_gaps)]
theorem hd_X4_takeShortWays : yX4_takeShortWays.cls = RX4 ∧ yX4_takeShortWays.cls ≠ "java/lang/invoke/MethodHandle" ∧ yX4_takeShortWays.cls ≠ "java/lang/invoke/VarHandle" ∧ (parseMethodDescriptor yX4_takeShortWays.desc).map (fun d => d.parameters.length) = some 0 := by decide +kernel
theorem in_X4_takeShortWays_X4 : ∀ w ∈ u_ws RX4 TX4 2, w ∈ wsX4_takeShortWays := fun w h => List.mem_cons_of_mem _ (List.mem_append_right _ (h))
theorem gf_X4_takeShortWays_28 : GF wsX4_takeShortWays RX4 28 4 0 := ⟨RX4, TX4, 2, rfl, in_X4_takeShortWays_X4, by decide, List.mem_of_getElem? (i := 1) rfl⟩
theorem mm_X4_takeShortWays_2 : Cond.methodLink RX4 19 Lib.Math.min.name ∈ wsX4_takeShortWays := List.mem_of_getElem? (i := 2) rfl
theorem mm_X4_takeShortWays_3 : Cond.static Lib.Math.min.name ∈ wsX4_takeShortWays := List.mem_of_getElem? (i := 3) rfl
theorem mm_X4_takeShortWays_4 : Cond.initialized "java/lang/Math" ∈ wsX4_takeShortWays := List.mem_of_getElem? (i := 4) rfl
theorem mm_X4_takeShortWays_5 : Cond.code Lib.Math.min.name Lib.Math.min.code 2 (some .int) ∈ wsX4_takeShortWays := List.mem_of_getElem? (i := 5) rfl
set_option maxRecDepth 100000 in
set_option maxHeartbeats 4000000 in
theorem k_X4_takeShortWays {g : XC} (C : XOk g cX4_takeShortWays RX4 wsX4_takeShortWays rm_X4_takeShortWays 4) (a_this : Nat) (a_this_gaps : Nat) (c_this_size : Int) (c_this_gaps : Nat → Int)  (K : (Nat → Int) → Prop) (hK : ∀ (o0 : Nat → Int), K o0 → FinV g 0 0 (w_X4_takeShortWays (xG g) a_this a_this_gaps c_this_size o0)) (h : wp (f_X4_takeShortWays c_this_size c_this_gaps) K) : WW g 0 0 (w_X4_takeShortWays (xG g) a_this a_this_gaps c_this_size c_this_gaps) 0 [(0, .ref a_this)] [] := by
  unfold f_X4_takeShortWays at h
  refine r_iconst C (pc := 0) dX4_takeShortWays_0 ?_
  refine r_istore_n C (pc := 1) dX4_takeShortWays_1 rfl (by decide) (L' := [(0, .ref a_this), (1, .int (jz 0))]) rfl ?_
  refine lq2_e (fun (v1_2 : Int) (this_gaps_2 : Nat → Int) => WW g 0 0 (w_X4_takeShortWays (xG g) a_this a_this_gaps c_this_size this_gaps_2) 2 [(0, .ref a_this), (1, .int (jz v1_2))] []) h (fun n2 hn2 v1_2 this_gaps_2 h => ?_)
  refine r_iload_n C (pc := 2) dX4_takeShortWays_2 rfl 1 rfl ?_
  refine r_aload_n C (pc := 3) dX4_takeShortWays_3 rfl 0 rfl ?_
  refine r_get C (pc := 4) dX4_takeShortWays_4 gf_X4_takeShortWays_28 0 rfl rfl ?_
  refine r_icmp_ge C (pc := 7) 78 dX4_takeShortWays_7 rfl h (fun c7 h => ?_) (fun c7 h => ?_)
  · exact r_vret C (pc := 78) dX4_takeShortWays_78 (hK this_gaps_2 (wp_s h))
  · refine r_iconst C (pc := 10) dX4_takeShortWays_10 ?_
    refine r_istore_n C (pc := 11) dX4_takeShortWays_11 rfl (by decide) (L' := [(0, .ref a_this), (1, .int (jz v1_2)), (2, .int (jz 0))]) rfl ?_
    refine lq2_e (fun (v2_12 : Int) (this_gaps_12 : Nat → Int) => WW g 0 0 (w_X4_takeShortWays (xG g) a_this a_this_gaps c_this_size this_gaps_12) 12 [(0, .ref a_this), (1, .int (jz v1_2)), (2, .int (jz v2_12))] []) h (fun n12 hn12 v2_12 this_gaps_12 h => ?_)
    refine r_iload_n C (pc := 12) dX4_takeShortWays_12 rfl 2 rfl ?_
    refine r_aload_n C (pc := 13) dX4_takeShortWays_13 rfl 0 rfl ?_
    refine r_get C (pc := 14) dX4_takeShortWays_14 gf_X4_takeShortWays_28 0 rfl rfl ?_
    refine r_icmp_ge C (pc := 17) 72 dX4_takeShortWays_17 rfl h (fun c17 h => ?_) (fun c17 h => ?_)
    · refine r_iinc C (pc := 72) dX4_takeShortWays_72 1 rfl (by decide) (L' := [(0, .ref a_this), (1, .int (jz (v1_2 + 1))), (2, .int (jz v2_12))]) rfl ?_
      refine r_goto C (pc := 75) 2 dX4_takeShortWays_75 rfl ?_
      refine r_sub [0, 1] rfl ?_
      exact hn2 (v1_2 + 1) this_gaps_12 h
    · refine r_iload_n C (pc := 20) dX4_takeShortWays_20 rfl 2 rfl ?_
      refine r_iconst C (pc := 21) dX4_takeShortWays_21 ?_
      refine r_iadd C (pc := 22) dX4_takeShortWays_22 ?_
      refine r_let h (fun x23 h => ?_)
      refine r_istore_n C (pc := 23) dX4_takeShortWays_23 rfl (by decide) (L' := [(0, .ref a_this), (1, .int (jz v1_2)), (2, .int (jz v2_12)), (3, .int (jz x23))]) rfl ?_
      refine lq2_e (fun (v3_24 : Int) (this_gaps_24 : Nat → Int) => WW g 0 0 (w_X4_takeShortWays (xG g) a_this a_this_gaps c_this_size this_gaps_24) 24 [(0, .ref a_this), (1, .int (jz v1_2)), (2, .int (jz v2_12)), (3, .int (jz v3_24))] []) h (fun n24 hn24 v3_24 this_gaps_24 h => ?_)
      refine r_iload_n C (pc := 24) dX4_takeShortWays_24 rfl 3 rfl ?_
      refine r_aload_n C (pc := 25) dX4_takeShortWays_25 rfl 0 rfl ?_
      refine r_get C (pc := 26) dX4_takeShortWays_26 gf_X4_takeShortWays_28 0 rfl rfl ?_
      refine r_icmp_ge C (pc := 29) 66 dX4_takeShortWays_29 rfl h (fun c29 h => ?_) (fun c29 h => ?_)
      · refine r_iinc C (pc := 66) dX4_takeShortWays_66 2 rfl (by decide) (L' := [(0, .ref a_this), (1, .int (jz v1_2)), (2, .int (jz (v2_12 + 1))), (3, .int (jz v3_24))]) rfl ?_
        refine r_goto C (pc := 69) 12 dX4_takeShortWays_69 rfl ?_
        refine r_sub [0, 1, 2] rfl ?_
        exact hn12 (v2_12 + 1) this_gaps_24 h
      · refine r_aload_n C (pc := 32) dX4_takeShortWays_32 rfl 0 rfl ?_
        refine r_iload_n C (pc := 33) dX4_takeShortWays_33 rfl 2 rfl ?_
        refine r_iload_n C (pc := 34) dX4_takeShortWays_34 rfl 3 rfl ?_
        refine r_aload_n C (pc := 35) dX4_takeShortWays_35 rfl 0 rfl ?_
        refine r_iload_n C (pc := 36) dX4_takeShortWays_36 rfl 2 rfl ?_
        refine r_iload_n C (pc := 37) dX4_takeShortWays_37 rfl 3 rfl ?_
        obtain ⟨r38, e38, h⟩ := wp_b1 h
        refine b_cVi C (pc := 38) dX4_takeShortWays_38 (c_X4_gap (xl g) (xG g) a_this a_this_gaps c_this_size this_gaps_24 v2_12 v3_24 r38 e38) rfl gX4_takeShortWays_X4_gap ⟨rfl, rfl⟩ 2 hd_X4_gap ⟨Nat.le_of_ble_eq_true rfl, Nat.le_of_ble_eq_true rfl⟩ rfl 0 rfl rfl rfl [0, 1] rfl (srt_nd 0 rfl) (ws' := w_X4_takeShortWays (xG g) a_this a_this_gaps c_this_size this_gaps_24) (Put.m rfl rfl rfl) rfl (rest := [.int (jz v3_24), .int (jz v2_12), .ref a_this]) rfl (Nat.le_of_ble_eq_true rfl) ⟨Nat.zero_le _, Nat.zero_le _⟩ ?_
        refine r_aload_n C (pc := 41) dX4_takeShortWays_41 rfl 0 rfl ?_
        refine r_iload_n C (pc := 42) dX4_takeShortWays_42 rfl 2 rfl ?_
        refine r_iload_n C (pc := 43) dX4_takeShortWays_43 rfl 1 rfl ?_
        obtain ⟨r44, e44, h⟩ := wp_b1 h
        refine b_cVi C (pc := 44) dX4_takeShortWays_44 (c_X4_gap (xl g) (xG g) a_this a_this_gaps c_this_size this_gaps_24 v2_12 v1_2 r44 e44) rfl gX4_takeShortWays_X4_gap ⟨rfl, rfl⟩ 2 hd_X4_gap ⟨Nat.le_of_ble_eq_true rfl, Nat.le_of_ble_eq_true rfl⟩ rfl 0 rfl rfl rfl [0, 1] rfl (srt_nd 0 rfl) (ws' := w_X4_takeShortWays (xG g) a_this a_this_gaps c_this_size this_gaps_24) (Put.m rfl rfl rfl) rfl (rest := [.int (jz r38), .int (jz v3_24), .int (jz v2_12), .ref a_this]) rfl (Nat.le_of_ble_eq_true rfl) ⟨Nat.zero_le _, Nat.zero_le _⟩ ?_
        refine r_aload_n C (pc := 47) dX4_takeShortWays_47 rfl 0 rfl ?_
        refine r_iload_n C (pc := 48) dX4_takeShortWays_48 rfl 1 rfl ?_
        refine r_iload_n C (pc := 49) dX4_takeShortWays_49 rfl 3 rfl ?_
        obtain ⟨r50, e50, h⟩ := wp_b1 h
        refine b_cVi C (pc := 50) dX4_takeShortWays_50 (c_X4_gap (xl g) (xG g) a_this a_this_gaps c_this_size this_gaps_24 v1_2 v3_24 r50 e50) rfl gX4_takeShortWays_X4_gap ⟨rfl, rfl⟩ 2 hd_X4_gap ⟨Nat.le_of_ble_eq_true rfl, Nat.le_of_ble_eq_true rfl⟩ rfl 0 rfl rfl rfl [0, 1] rfl (srt_nd 0 rfl) (ws' := w_X4_takeShortWays (xG g) a_this a_this_gaps c_this_size this_gaps_24) (Put.m rfl rfl rfl) rfl (rest := [.int (jz r44), .int (jz r38), .int (jz v3_24), .int (jz v2_12), .ref a_this]) rfl (Nat.le_of_ble_eq_true rfl) ⟨Nat.zero_le _, Nat.zero_le _⟩ ?_
        refine r_iadd C (pc := 53) dX4_takeShortWays_53 ?_
        refine r_mmin C (pc := 54) dX4_takeShortWays_54 mm_X4_takeShortWays_2 mm_X4_takeShortWays_3 mm_X4_takeShortWays_4 mm_X4_takeShortWays_5 (Nat.le_of_ble_eq_true rfl) (Nat.le_of_ble_eq_true rfl) ⟨Nat.zero_le _, Nat.zero_le _⟩ ?_
        obtain ⟨this_gaps_57, e57, h⟩ := wp_b1 h
        refine b_cVv C (pc := 57) dX4_takeShortWays_57 (c_X4_put (xl g) (xG g) a_this a_this_gaps c_this_size this_gaps_24 v2_12 v3_24 (minI r38 (r44 + r50)) this_gaps_57 e57) rfl gX4_takeShortWays_X4_put ⟨rfl, rfl⟩ 3 hd_X4_put ⟨Nat.le_of_ble_eq_true rfl, Nat.le_of_ble_eq_true rfl⟩ rfl 0 rfl rfl rfl [0, 1] rfl (srt_nd 0 rfl) (ws' := w_X4_takeShortWays (xG g) a_this a_this_gaps c_this_size this_gaps_57) (Put.m rfl rfl rfl) rfl (rest := []) rfl (Nat.le_of_ble_eq_true rfl) ⟨Nat.zero_le _, Nat.zero_le _⟩ ?_
        refine r_iinc C (pc := 60) dX4_takeShortWays_60 3 rfl (by decide) (L' := [(0, .ref a_this), (1, .int (jz v1_2)), (2, .int (jz v2_12)), (3, .int (jz (v3_24 + 1)))]) rfl ?_
        refine r_goto C (pc := 63) 24 dX4_takeShortWays_63 rfl ?_
        exact hn24 (v3_24 + 1) this_gaps_57 h
theorem c_X4_takeShortWays (l : Launch) (G : gG) (a_this : Nat) (a_this_gaps : Nat) (c_this_size : Int) (c_this_gaps : Nat → Int) (o0 : Nat → Int) (hf : f_X4_takeShortWays c_this_size c_this_gaps = some o0) : CTv l yX4_takeShortWays wsX4_takeShortWays rm_X4_takeShortWays G (w_X4_takeShortWays G a_this a_this_gaps c_this_size c_this_gaps) [.ref a_this] (w_X4_takeShortWays G a_this a_this_gaps c_this_size o0) := CTv_of (by decide) rfl rfl (Nat.le_of_ble_eq_true rfl) (fun g C hG hl hF => by
    subst hG
    subst hl
    exact k_X4_takeShortWays C a_this a_this_gaps c_this_size c_this_gaps (fun x => x = o0) (fun o0' e => by cases e; exact hF) ⟨_, hf, rfl⟩)

-- TightHulls$Table.manyTwos()I
def f_X4_manyTwos (c_this_size : Int) : Option Int := grd (!(eqI 2 0)) (some (divI (c_this_size * (c_this_size - 1)) 2))
abbrev rm_X4_manyTwos : Room := { frames := 0, cells := 0, slots := 0, locals := 0 }
abbrev w_X4_manyTwos (G : gG) (a_this : Nat) (a_this_gaps : Nat) (c_this_size : Int) : va_W := [(a_this, .inr (4, [.int (jz c_this_size), .ref a_this_gaps]))]
theorem hd_X4_manyTwos : yX4_manyTwos.cls = RX4 ∧ yX4_manyTwos.cls ≠ "java/lang/invoke/MethodHandle" ∧ yX4_manyTwos.cls ≠ "java/lang/invoke/VarHandle" ∧ (parseMethodDescriptor yX4_manyTwos.desc).map (fun d => d.parameters.length) = some 0 := by decide +kernel
theorem in_X4_manyTwos_X4 : ∀ w ∈ u_ws RX4 TX4 2, w ∈ wsX4_manyTwos := fun w h => List.mem_cons_of_mem _ (List.mem_append_right _ (h))
theorem gf_X4_manyTwos_28 : GF wsX4_manyTwos RX4 28 4 0 := ⟨RX4, TX4, 2, rfl, in_X4_manyTwos_X4, by decide, List.mem_of_getElem? (i := 1) rfl⟩
set_option maxRecDepth 100000 in
set_option maxHeartbeats 4000000 in
theorem k_X4_manyTwos {g : XC} (C : XOk g cX4_manyTwos RX4 wsX4_manyTwos rm_X4_manyTwos 1) (a_this : Nat) (a_this_gaps : Nat) (c_this_size : Int)  (K : Int → Prop) (hK : ∀ (r : Int), K r → (narrow .int (.int (jz r)) = .int (jz r) → FinI g 0 0 (w_X4_manyTwos (xG g) a_this a_this_gaps c_this_size) (jz r))) (h : wp (f_X4_manyTwos c_this_size) K) : WW g 0 0 (w_X4_manyTwos (xG g) a_this a_this_gaps c_this_size) 0 [(0, .ref a_this)] [] := by
  unfold f_X4_manyTwos at h
  refine r_aload_n C (pc := 0) dX4_manyTwos_0 rfl 0 rfl ?_
  refine r_get C (pc := 1) dX4_manyTwos_1 gf_X4_manyTwos_28 0 rfl rfl ?_
  refine r_aload_n C (pc := 4) dX4_manyTwos_4 rfl 0 rfl ?_
  refine r_get C (pc := 5) dX4_manyTwos_5 gf_X4_manyTwos_28 0 rfl rfl ?_
  refine r_iconst C (pc := 8) dX4_manyTwos_8 ?_
  refine r_isub C (pc := 9) dX4_manyTwos_9 ?_
  refine r_imul C (pc := 10) dX4_manyTwos_10 ?_
  refine r_iconst C (pc := 11) dX4_manyTwos_11 ?_
  refine r_idiv C (pc := 12) dX4_manyTwos_12 h (fun h => ?_)
  exact r_iret C (pc := 13) dX4_manyTwos_13 (hK (divI (c_this_size * (c_this_size - 1)) 2) (wp_s h) rfl)
theorem c_X4_manyTwos (l : Launch) (G : gG) (a_this : Nat) (a_this_gaps : Nat) (c_this_size : Int) (r : Int) (hf : f_X4_manyTwos c_this_size = some r) : CTi l yX4_manyTwos wsX4_manyTwos rm_X4_manyTwos G (w_X4_manyTwos G a_this a_this_gaps c_this_size) [.ref a_this] (jz r) (w_X4_manyTwos G a_this a_this_gaps c_this_size) := CTi_of (by decide) rfl rfl (Nat.le_of_ble_eq_true rfl) (fun g C hG hl hF => by
    subst hG
    subst hl
    exact k_X4_manyTwos C a_this a_this_gaps c_this_size (fun x => x = r) (fun r' e => by cases e; exact hF) ⟨_, hf, rfl⟩)

-- TightHulls$Table.span()I
def f_X4_span (c_this_size : Int) (c_this_gaps : Nat → Int) : Option Int := lq2 (fun (n4 : Int → Int → Option Int) (v1_4 : Int) (v2_4 : Int) => if ltI v2_4 c_this_size = true then (lv ((v2_4 + 1)) (fun x15 => lq2 (fun (n16 : Int → Int → Option Int) (v1_16 : Int) (v3_16 : Int) => if ltI v3_16 c_this_size = true then (bd1 (f_X4_gap v2_4 v3_16 c_this_size c_this_gaps) (fun r28 => lv ((maxI v1_16 r28)) (fun x34 => n16 x34 (v3_16 + 1)))) else (n4 v1_16 (v2_4 + 1))) 300 v1_4 x15)) else (some v1_4)) 300 0 0
abbrev rm_X4_span : Room := { frames := 1, cells := 0, slots := 0, locals := 60 }
abbrev w_X4_span (G : gG) (a_this : Nat) (a_this_gaps : Nat) (c_this_size : Int) (c_this_gaps : Nat → Int) : va_W := [(a_this, .inr (4, [.int (jz c_this_size), .ref a_this_gaps])), (a_this_gaps, aI G 25 c_this_gaps)]
theorem hd_X4_span : yX4_span.cls = RX4 ∧ yX4_span.cls ≠ "java/lang/invoke/MethodHandle" ∧ yX4_span.cls ≠ "java/lang/invoke/VarHandle" ∧ (parseMethodDescriptor yX4_span.desc).map (fun d => d.parameters.length) = some 0 := by decide +kernel
theorem in_X4_span_X4 : ∀ w ∈ u_ws RX4 TX4 2, w ∈ wsX4_span := fun w h => List.mem_cons_of_mem _ (List.mem_append_right _ (h))
theorem gf_X4_span_28 : GF wsX4_span RX4 28 4 0 := ⟨RX4, TX4, 2, rfl, in_X4_span_X4, by decide, List.mem_of_getElem? (i := 1) rfl⟩
theorem mm_X4_span_2 : Cond.methodLink RX4 25 Lib.Math.max.name ∈ wsX4_span := List.mem_of_getElem? (i := 2) rfl
theorem mm_X4_span_3 : Cond.static Lib.Math.max.name ∈ wsX4_span := List.mem_of_getElem? (i := 3) rfl
theorem mm_X4_span_4 : Cond.initialized "java/lang/Math" ∈ wsX4_span := List.mem_of_getElem? (i := 4) rfl
theorem mm_X4_span_5 : Cond.code Lib.Math.max.name Lib.Math.max.code 2 (some .int) ∈ wsX4_span := List.mem_of_getElem? (i := 5) rfl
set_option maxRecDepth 100000 in
set_option maxHeartbeats 4000000 in
theorem k_X4_span {g : XC} (C : XOk g cX4_span RX4 wsX4_span rm_X4_span 4) (a_this : Nat) (a_this_gaps : Nat) (c_this_size : Int) (c_this_gaps : Nat → Int)  (K : Int → Prop) (hK : ∀ (r : Int), K r → (narrow .int (.int (jz r)) = .int (jz r) → FinI g 0 0 (w_X4_span (xG g) a_this a_this_gaps c_this_size c_this_gaps) (jz r))) (h : wp (f_X4_span c_this_size c_this_gaps) K) : WW g 0 0 (w_X4_span (xG g) a_this a_this_gaps c_this_size c_this_gaps) 0 [(0, .ref a_this)] [] := by
  unfold f_X4_span at h
  refine r_iconst C (pc := 0) dX4_span_0 ?_
  refine r_istore_n C (pc := 1) dX4_span_1 rfl (by decide) (L' := [(0, .ref a_this), (1, .int (jz 0))]) rfl ?_
  refine r_iconst C (pc := 2) dX4_span_2 ?_
  refine r_istore_n C (pc := 3) dX4_span_3 rfl (by decide) (L' := [(0, .ref a_this), (1, .int (jz 0)), (2, .int (jz 0))]) rfl ?_
  refine lq2_e (fun (v1_4 : Int) (v2_4 : Int) => WW g 0 0 (w_X4_span (xG g) a_this a_this_gaps c_this_size c_this_gaps) 4 [(0, .ref a_this), (1, .int (jz v1_4)), (2, .int (jz v2_4))] []) h (fun n4 hn4 v1_4 v2_4 h => ?_)
  refine r_iload_n C (pc := 4) dX4_span_4 rfl 2 rfl ?_
  refine r_aload_n C (pc := 5) dX4_span_5 rfl 0 rfl ?_
  refine r_get C (pc := 6) dX4_span_6 gf_X4_span_28 0 rfl rfl ?_
  refine r_icmp_ge C (pc := 9) 47 dX4_span_9 rfl h (fun c9 h => ?_) (fun c9 h => ?_)
  · refine r_iload_n C (pc := 47) dX4_span_47 rfl 1 rfl ?_
    exact r_iret C (pc := 48) dX4_span_48 (hK v1_4 (wp_s h) rfl)
  · refine r_iload_n C (pc := 12) dX4_span_12 rfl 2 rfl ?_
    refine r_iconst C (pc := 13) dX4_span_13 ?_
    refine r_iadd C (pc := 14) dX4_span_14 ?_
    refine r_let h (fun x15 h => ?_)
    refine r_istore_n C (pc := 15) dX4_span_15 rfl (by decide) (L' := [(0, .ref a_this), (1, .int (jz v1_4)), (2, .int (jz v2_4)), (3, .int (jz x15))]) rfl ?_
    refine lq2_e (fun (v1_16 : Int) (v3_16 : Int) => WW g 0 0 (w_X4_span (xG g) a_this a_this_gaps c_this_size c_this_gaps) 16 [(0, .ref a_this), (1, .int (jz v1_16)), (2, .int (jz v2_4)), (3, .int (jz v3_16))] []) h (fun n16 hn16 v1_16 v3_16 h => ?_)
    refine r_iload_n C (pc := 16) dX4_span_16 rfl 3 rfl ?_
    refine r_aload_n C (pc := 17) dX4_span_17 rfl 0 rfl ?_
    refine r_get C (pc := 18) dX4_span_18 gf_X4_span_28 0 rfl rfl ?_
    refine r_icmp_ge C (pc := 21) 41 dX4_span_21 rfl h (fun c21 h => ?_) (fun c21 h => ?_)
    · refine r_iinc C (pc := 41) dX4_span_41 2 rfl (by decide) (L' := [(0, .ref a_this), (1, .int (jz v1_16)), (2, .int (jz (v2_4 + 1))), (3, .int (jz v3_16))]) rfl ?_
      refine r_goto C (pc := 44) 4 dX4_span_44 rfl ?_
      refine r_sub [0, 1, 2] rfl ?_
      exact hn4 v1_16 (v2_4 + 1) h
    · refine r_iload_n C (pc := 24) dX4_span_24 rfl 1 rfl ?_
      refine r_aload_n C (pc := 25) dX4_span_25 rfl 0 rfl ?_
      refine r_iload_n C (pc := 26) dX4_span_26 rfl 2 rfl ?_
      refine r_iload_n C (pc := 27) dX4_span_27 rfl 3 rfl ?_
      obtain ⟨r28, e28, h⟩ := wp_b1 h
      refine b_cVi C (pc := 28) dX4_span_28 (c_X4_gap (xl g) (xG g) a_this a_this_gaps c_this_size c_this_gaps v2_4 v3_16 r28 e28) rfl gX4_span_X4_gap ⟨rfl, rfl⟩ 2 hd_X4_gap ⟨Nat.le_of_ble_eq_true rfl, Nat.le_of_ble_eq_true rfl⟩ rfl 0 rfl rfl rfl [0, 1] rfl (srt_nd 0 rfl) (ws' := w_X4_span (xG g) a_this a_this_gaps c_this_size c_this_gaps) (Put.m rfl rfl rfl) rfl (rest := [.int (jz v1_16)]) rfl (Nat.le_of_ble_eq_true rfl) ⟨Nat.zero_le _, Nat.zero_le _⟩ ?_
      refine r_mmax C (pc := 31) dX4_span_31 mm_X4_span_2 mm_X4_span_3 mm_X4_span_4 mm_X4_span_5 (Nat.le_of_ble_eq_true rfl) (Nat.le_of_ble_eq_true rfl) ⟨Nat.zero_le _, Nat.zero_le _⟩ ?_
      refine r_let h (fun x34 h => ?_)
      refine r_istore_n C (pc := 34) dX4_span_34 rfl (by decide) (L' := [(0, .ref a_this), (1, .int (jz x34)), (2, .int (jz v2_4)), (3, .int (jz v3_16))]) rfl ?_
      refine r_iinc C (pc := 35) dX4_span_35 3 rfl (by decide) (L' := [(0, .ref a_this), (1, .int (jz x34)), (2, .int (jz v2_4)), (3, .int (jz (v3_16 + 1)))]) rfl ?_
      refine r_goto C (pc := 38) 16 dX4_span_38 rfl ?_
      exact hn16 x34 (v3_16 + 1) h
theorem c_X4_span (l : Launch) (G : gG) (a_this : Nat) (a_this_gaps : Nat) (c_this_size : Int) (c_this_gaps : Nat → Int) (r : Int) (hf : f_X4_span c_this_size c_this_gaps = some r) : CTi l yX4_span wsX4_span rm_X4_span G (w_X4_span G a_this a_this_gaps c_this_size c_this_gaps) [.ref a_this] (jz r) (w_X4_span G a_this a_this_gaps c_this_size c_this_gaps) := CTi_of (by decide) rfl rfl (Nat.le_of_ble_eq_true rfl) (fun g C hG hl hF => by
    subst hG
    subst hl
    exact k_X4_span C a_this a_this_gaps c_this_size c_this_gaps (fun x => x = r) (fun r' e => by cases e; exact hF) ⟨_, hf, rfl⟩)

-- TightHulls$Table.girth()I
def f_X4_girth (c_this_size : Int) (c_this_gaps : Nat → Int) : Option Int := lq2 (fun (n4 : Int → Int → Option Int) (v1_4 : Int) (v2_4 : Int) => if ltI v2_4 c_this_size = true then (lv ((v2_4 + 1)) (fun x15 => lq2 (fun (n16 : Int → Int → Option Int) (v1_16 : Int) (v3_16 : Int) => if ltI v3_16 c_this_size = true then (bd1 (f_X4_gap v2_4 v3_16 c_this_size c_this_gaps) (fun r28 => lv ((v1_16 + r28)) (fun x32 => n16 x32 (v3_16 + 1)))) else (n4 v1_16 (v2_4 + 1))) 300 v1_4 x15)) else (some v1_4)) 300 0 0
abbrev rm_X4_girth : Room := { frames := 1, cells := 0, slots := 0, locals := 23 }
abbrev w_X4_girth (G : gG) (a_this : Nat) (a_this_gaps : Nat) (c_this_size : Int) (c_this_gaps : Nat → Int) : va_W := [(a_this, .inr (4, [.int (jz c_this_size), .ref a_this_gaps])), (a_this_gaps, aI G 25 c_this_gaps)]
theorem hd_X4_girth : yX4_girth.cls = RX4 ∧ yX4_girth.cls ≠ "java/lang/invoke/MethodHandle" ∧ yX4_girth.cls ≠ "java/lang/invoke/VarHandle" ∧ (parseMethodDescriptor yX4_girth.desc).map (fun d => d.parameters.length) = some 0 := by decide +kernel
theorem in_X4_girth_X4 : ∀ w ∈ u_ws RX4 TX4 2, w ∈ wsX4_girth := fun w h => List.mem_cons_of_mem _ (List.mem_append_right _ (h))
theorem gf_X4_girth_28 : GF wsX4_girth RX4 28 4 0 := ⟨RX4, TX4, 2, rfl, in_X4_girth_X4, by decide, List.mem_of_getElem? (i := 1) rfl⟩
set_option maxRecDepth 100000 in
set_option maxHeartbeats 4000000 in
theorem k_X4_girth {g : XC} (C : XOk g cX4_girth RX4 wsX4_girth rm_X4_girth 4) (a_this : Nat) (a_this_gaps : Nat) (c_this_size : Int) (c_this_gaps : Nat → Int)  (K : Int → Prop) (hK : ∀ (r : Int), K r → (narrow .int (.int (jz r)) = .int (jz r) → FinI g 0 0 (w_X4_girth (xG g) a_this a_this_gaps c_this_size c_this_gaps) (jz r))) (h : wp (f_X4_girth c_this_size c_this_gaps) K) : WW g 0 0 (w_X4_girth (xG g) a_this a_this_gaps c_this_size c_this_gaps) 0 [(0, .ref a_this)] [] := by
  unfold f_X4_girth at h
  refine r_iconst C (pc := 0) dX4_girth_0 ?_
  refine r_istore_n C (pc := 1) dX4_girth_1 rfl (by decide) (L' := [(0, .ref a_this), (1, .int (jz 0))]) rfl ?_
  refine r_iconst C (pc := 2) dX4_girth_2 ?_
  refine r_istore_n C (pc := 3) dX4_girth_3 rfl (by decide) (L' := [(0, .ref a_this), (1, .int (jz 0)), (2, .int (jz 0))]) rfl ?_
  refine lq2_e (fun (v1_4 : Int) (v2_4 : Int) => WW g 0 0 (w_X4_girth (xG g) a_this a_this_gaps c_this_size c_this_gaps) 4 [(0, .ref a_this), (1, .int (jz v1_4)), (2, .int (jz v2_4))] []) h (fun n4 hn4 v1_4 v2_4 h => ?_)
  refine r_iload_n C (pc := 4) dX4_girth_4 rfl 2 rfl ?_
  refine r_aload_n C (pc := 5) dX4_girth_5 rfl 0 rfl ?_
  refine r_get C (pc := 6) dX4_girth_6 gf_X4_girth_28 0 rfl rfl ?_
  refine r_icmp_ge C (pc := 9) 45 dX4_girth_9 rfl h (fun c9 h => ?_) (fun c9 h => ?_)
  · refine r_iload_n C (pc := 45) dX4_girth_45 rfl 1 rfl ?_
    exact r_iret C (pc := 46) dX4_girth_46 (hK v1_4 (wp_s h) rfl)
  · refine r_iload_n C (pc := 12) dX4_girth_12 rfl 2 rfl ?_
    refine r_iconst C (pc := 13) dX4_girth_13 ?_
    refine r_iadd C (pc := 14) dX4_girth_14 ?_
    refine r_let h (fun x15 h => ?_)
    refine r_istore_n C (pc := 15) dX4_girth_15 rfl (by decide) (L' := [(0, .ref a_this), (1, .int (jz v1_4)), (2, .int (jz v2_4)), (3, .int (jz x15))]) rfl ?_
    refine lq2_e (fun (v1_16 : Int) (v3_16 : Int) => WW g 0 0 (w_X4_girth (xG g) a_this a_this_gaps c_this_size c_this_gaps) 16 [(0, .ref a_this), (1, .int (jz v1_16)), (2, .int (jz v2_4)), (3, .int (jz v3_16))] []) h (fun n16 hn16 v1_16 v3_16 h => ?_)
    refine r_iload_n C (pc := 16) dX4_girth_16 rfl 3 rfl ?_
    refine r_aload_n C (pc := 17) dX4_girth_17 rfl 0 rfl ?_
    refine r_get C (pc := 18) dX4_girth_18 gf_X4_girth_28 0 rfl rfl ?_
    refine r_icmp_ge C (pc := 21) 39 dX4_girth_21 rfl h (fun c21 h => ?_) (fun c21 h => ?_)
    · refine r_iinc C (pc := 39) dX4_girth_39 2 rfl (by decide) (L' := [(0, .ref a_this), (1, .int (jz v1_16)), (2, .int (jz (v2_4 + 1))), (3, .int (jz v3_16))]) rfl ?_
      refine r_goto C (pc := 42) 4 dX4_girth_42 rfl ?_
      refine r_sub [0, 1, 2] rfl ?_
      exact hn4 v1_16 (v2_4 + 1) h
    · refine r_iload_n C (pc := 24) dX4_girth_24 rfl 1 rfl ?_
      refine r_aload_n C (pc := 25) dX4_girth_25 rfl 0 rfl ?_
      refine r_iload_n C (pc := 26) dX4_girth_26 rfl 2 rfl ?_
      refine r_iload_n C (pc := 27) dX4_girth_27 rfl 3 rfl ?_
      obtain ⟨r28, e28, h⟩ := wp_b1 h
      refine b_cVi C (pc := 28) dX4_girth_28 (c_X4_gap (xl g) (xG g) a_this a_this_gaps c_this_size c_this_gaps v2_4 v3_16 r28 e28) rfl gX4_girth_X4_gap ⟨rfl, rfl⟩ 2 hd_X4_gap ⟨Nat.le_of_ble_eq_true rfl, Nat.le_of_ble_eq_true rfl⟩ rfl 0 rfl rfl rfl [0, 1] rfl (srt_nd 0 rfl) (ws' := w_X4_girth (xG g) a_this a_this_gaps c_this_size c_this_gaps) (Put.m rfl rfl rfl) rfl (rest := [.int (jz v1_16)]) rfl (Nat.le_of_ble_eq_true rfl) ⟨Nat.zero_le _, Nat.zero_le _⟩ ?_
      refine r_iadd C (pc := 31) dX4_girth_31 ?_
      refine r_let h (fun x32 h => ?_)
      refine r_istore_n C (pc := 32) dX4_girth_32 rfl (by decide) (L' := [(0, .ref a_this), (1, .int (jz x32)), (2, .int (jz v2_4)), (3, .int (jz v3_16))]) rfl ?_
      refine r_iinc C (pc := 33) dX4_girth_33 3 rfl (by decide) (L' := [(0, .ref a_this), (1, .int (jz x32)), (2, .int (jz v2_4)), (3, .int (jz (v3_16 + 1)))]) rfl ?_
      refine r_goto C (pc := 36) 16 dX4_girth_36 rfl ?_
      exact hn16 x32 (v3_16 + 1) h
theorem c_X4_girth (l : Launch) (G : gG) (a_this : Nat) (a_this_gaps : Nat) (c_this_size : Int) (c_this_gaps : Nat → Int) (r : Int) (hf : f_X4_girth c_this_size c_this_gaps = some r) : CTi l yX4_girth wsX4_girth rm_X4_girth G (w_X4_girth G a_this a_this_gaps c_this_size c_this_gaps) [.ref a_this] (jz r) (w_X4_girth G a_this a_this_gaps c_this_size c_this_gaps) := CTi_of (by decide) rfl rfl (Nat.le_of_ble_eq_true rfl) (fun g C hG hl hF => by
    subst hG
    subst hl
    exact k_X4_girth C a_this a_this_gaps c_this_size c_this_gaps (fun x => x = r) (fun r' e => by cases e; exact hF) ⟨_, hf, rfl⟩)

-- TightHulls$Table.manyOf(I)I
def f_X4_manyOf (p1 : Int) (c_this_size : Int) (c_this_gaps : Nat → Int) : Option Int := lq2 (fun (n4 : Int → Int → Option Int) (v2_4 : Int) (v3_4 : Int) => if ltI v3_4 c_this_size = true then (lv ((v3_4 + 1)) (fun x15 => lq2 (fun (n17 : Int → Int → Option Int) (v2_17 : Int) (v4_17 : Int) => if ltI v4_17 c_this_size = true then (bd1 (f_X4_gap v3_4 v4_17 c_this_size c_this_gaps) (fun r31 => jn (fun (s1_43 : Int) => lv ((v2_17 + s1_43)) (fun x44 => n17 x44 (v4_17 + 1))) (fun (k43 : Int → Option Int) => if eqI r31 p1 = true then (k43 1) else (k43 0)))) else (n4 v2_17 (v3_4 + 1))) 300 v2_4 x15)) else (some v2_4)) 300 0 0
abbrev rm_X4_manyOf : Room := { frames := 1, cells := 0, slots := 0, locals := 23 }
abbrev w_X4_manyOf (G : gG) (a_this : Nat) (a_this_gaps : Nat) (c_this_size : Int) (c_this_gaps : Nat → Int) : va_W := [(a_this, .inr (4, [.int (jz c_this_size), .ref a_this_gaps])), (a_this_gaps, aI G 25 c_this_gaps)]
theorem hd_X4_manyOf : yX4_manyOf.cls = RX4 ∧ yX4_manyOf.cls ≠ "java/lang/invoke/MethodHandle" ∧ yX4_manyOf.cls ≠ "java/lang/invoke/VarHandle" ∧ (parseMethodDescriptor yX4_manyOf.desc).map (fun d => d.parameters.length) = some 1 := by decide +kernel
theorem in_X4_manyOf_X4 : ∀ w ∈ u_ws RX4 TX4 2, w ∈ wsX4_manyOf := fun w h => List.mem_cons_of_mem _ (List.mem_append_right _ (h))
theorem gf_X4_manyOf_28 : GF wsX4_manyOf RX4 28 4 0 := ⟨RX4, TX4, 2, rfl, in_X4_manyOf_X4, by decide, List.mem_of_getElem? (i := 1) rfl⟩
set_option maxRecDepth 100000 in
set_option maxHeartbeats 4000000 in
theorem k_X4_manyOf {g : XC} (C : XOk g cX4_manyOf RX4 wsX4_manyOf rm_X4_manyOf 5) (a_this : Nat) (a_this_gaps : Nat) (c_this_size : Int) (c_this_gaps : Nat → Int) (p1 : Int) (K : Int → Prop) (hK : ∀ (r : Int), K r → (narrow .int (.int (jz r)) = .int (jz r) → FinI g 0 0 (w_X4_manyOf (xG g) a_this a_this_gaps c_this_size c_this_gaps) (jz r))) (h : wp (f_X4_manyOf p1 c_this_size c_this_gaps) K) : WW g 0 0 (w_X4_manyOf (xG g) a_this a_this_gaps c_this_size c_this_gaps) 0 [(0, .ref a_this), (1, .int (jz p1))] [] := by
  unfold f_X4_manyOf at h
  refine r_iconst C (pc := 0) dX4_manyOf_0 ?_
  refine r_istore_n C (pc := 1) dX4_manyOf_1 rfl (by decide) (L' := [(0, .ref a_this), (1, .int (jz p1)), (2, .int (jz 0))]) rfl ?_
  refine r_iconst C (pc := 2) dX4_manyOf_2 ?_
  refine r_istore_n C (pc := 3) dX4_manyOf_3 rfl (by decide) (L' := [(0, .ref a_this), (1, .int (jz p1)), (2, .int (jz 0)), (3, .int (jz 0))]) rfl ?_
  refine lq2_e (fun (v2_4 : Int) (v3_4 : Int) => WW g 0 0 (w_X4_manyOf (xG g) a_this a_this_gaps c_this_size c_this_gaps) 4 [(0, .ref a_this), (1, .int (jz p1)), (2, .int (jz v2_4)), (3, .int (jz v3_4))] []) h (fun n4 hn4 v2_4 v3_4 h => ?_)
  refine r_iload_n C (pc := 4) dX4_manyOf_4 rfl 3 rfl ?_
  refine r_aload_n C (pc := 5) dX4_manyOf_5 rfl 0 rfl ?_
  refine r_get C (pc := 6) dX4_manyOf_6 gf_X4_manyOf_28 0 rfl rfl ?_
  refine r_icmp_ge C (pc := 9) 57 dX4_manyOf_9 rfl h (fun c9 h => ?_) (fun c9 h => ?_)
  · refine r_iload_n C (pc := 57) dX4_manyOf_57 rfl 2 rfl ?_
    exact r_iret C (pc := 58) dX4_manyOf_58 (hK v2_4 (wp_s h) rfl)
  · refine r_iload_n C (pc := 12) dX4_manyOf_12 rfl 3 rfl ?_
    refine r_iconst C (pc := 13) dX4_manyOf_13 ?_
    refine r_iadd C (pc := 14) dX4_manyOf_14 ?_
    refine r_let h (fun x15 h => ?_)
    refine r_istore C (pc := 15) dX4_manyOf_15 (by decide) (L' := [(0, .ref a_this), (1, .int (jz p1)), (2, .int (jz v2_4)), (3, .int (jz v3_4)), (4, .int (jz x15))]) rfl ?_
    refine lq2_e (fun (v2_17 : Int) (v4_17 : Int) => WW g 0 0 (w_X4_manyOf (xG g) a_this a_this_gaps c_this_size c_this_gaps) 17 [(0, .ref a_this), (1, .int (jz p1)), (2, .int (jz v2_17)), (3, .int (jz v3_4)), (4, .int (jz v4_17))] []) h (fun n17 hn17 v2_17 v4_17 h => ?_)
    refine r_iload C (pc := 17) dX4_manyOf_17 4 rfl ?_
    refine r_aload_n C (pc := 19) dX4_manyOf_19 rfl 0 rfl ?_
    refine r_get C (pc := 20) dX4_manyOf_20 gf_X4_manyOf_28 0 rfl rfl ?_
    refine r_icmp_ge C (pc := 23) 51 dX4_manyOf_23 rfl h (fun c23 h => ?_) (fun c23 h => ?_)
    · refine r_iinc C (pc := 51) dX4_manyOf_51 3 rfl (by decide) (L' := [(0, .ref a_this), (1, .int (jz p1)), (2, .int (jz v2_17)), (3, .int (jz (v3_4 + 1))), (4, .int (jz v4_17))]) rfl ?_
      refine r_goto C (pc := 54) 4 dX4_manyOf_54 rfl ?_
      refine r_sub [0, 1, 2, 3] rfl ?_
      exact hn4 v2_17 (v3_4 + 1) h
    · refine r_iload_n C (pc := 26) dX4_manyOf_26 rfl 2 rfl ?_
      refine r_aload_n C (pc := 27) dX4_manyOf_27 rfl 0 rfl ?_
      refine r_iload_n C (pc := 28) dX4_manyOf_28 rfl 3 rfl ?_
      refine r_iload C (pc := 29) dX4_manyOf_29 4 rfl ?_
      obtain ⟨r31, e31, h⟩ := wp_b1 h
      refine b_cVi C (pc := 31) dX4_manyOf_31 (c_X4_gap (xl g) (xG g) a_this a_this_gaps c_this_size c_this_gaps v3_4 v4_17 r31 e31) rfl gX4_manyOf_X4_gap ⟨rfl, rfl⟩ 2 hd_X4_gap ⟨Nat.le_of_ble_eq_true rfl, Nat.le_of_ble_eq_true rfl⟩ rfl 0 rfl rfl rfl [0, 1] rfl (srt_nd 0 rfl) (ws' := w_X4_manyOf (xG g) a_this a_this_gaps c_this_size c_this_gaps) (Put.m rfl rfl rfl) rfl (rest := [.int (jz v2_17)]) rfl (Nat.le_of_ble_eq_true rfl) ⟨Nat.zero_le _, Nat.zero_le _⟩ ?_
      refine r_iload_n C (pc := 34) dX4_manyOf_34 rfl 1 rfl ?_
      refine jn_e (fun (k43 : Int → Option Int) => ∀ (s1_43 : Int), wp (k43 s1_43) K → WW g 0 0 (w_X4_manyOf (xG g) a_this a_this_gaps c_this_size c_this_gaps) 43 [(0, .ref a_this), (1, .int (jz p1)), (3, .int (jz v3_4)), (4, .int (jz v4_17))] [.int (jz s1_43), .int (jz v2_17)]) h (fun s1_43 h => ?_) (fun k43 hk43 h => ?_)
      · refine r_iadd C (pc := 43) dX4_manyOf_43 ?_
        refine r_let h (fun x44 h => ?_)
        refine r_istore_n C (pc := 44) dX4_manyOf_44 rfl (by decide) (L' := [(0, .ref a_this), (1, .int (jz p1)), (2, .int (jz x44)), (3, .int (jz v3_4)), (4, .int (jz v4_17))]) rfl ?_
        refine r_iinc C (pc := 45) dX4_manyOf_45 4 rfl (by decide) (L' := [(0, .ref a_this), (1, .int (jz p1)), (2, .int (jz x44)), (3, .int (jz v3_4)), (4, .int (jz (v4_17 + 1)))]) rfl ?_
        refine r_goto C (pc := 48) 17 dX4_manyOf_48 rfl ?_
        exact hn17 x44 (v4_17 + 1) h
      · refine r_icmp_ne C (pc := 35) 42 dX4_manyOf_35 rfl h (fun c35 h => ?_) (fun c35 h => ?_)
        · refine r_iconst C (pc := 42) dX4_manyOf_42 ?_
          refine r_sub [0, 1, 3, 4] rfl ?_
          exact hk43 0 h
        · refine r_iconst C (pc := 38) dX4_manyOf_38 ?_
          refine r_goto C (pc := 39) 43 dX4_manyOf_39 rfl ?_
          refine r_sub [0, 1, 3, 4] rfl ?_
          exact hk43 1 h
theorem c_X4_manyOf (l : Launch) (G : gG) (a_this : Nat) (a_this_gaps : Nat) (c_this_size : Int) (c_this_gaps : Nat → Int) (p1 : Int) (r : Int) (hf : f_X4_manyOf p1 c_this_size c_this_gaps = some r) : CTi l yX4_manyOf wsX4_manyOf rm_X4_manyOf G (w_X4_manyOf G a_this a_this_gaps c_this_size c_this_gaps) [.ref a_this, .int (jz p1)] (jz r) (w_X4_manyOf G a_this a_this_gaps c_this_size c_this_gaps) := CTi_of (by decide) rfl rfl (Nat.le_of_ble_eq_true rfl) (fun g C hG hl hF => by
    subst hG
    subst hl
    exact k_X4_manyOf C a_this a_this_gaps c_this_size c_this_gaps p1 (fun x => x = r) (fun r' e => by cases e; exact hF) ⟨_, hf, rfl⟩)

-- TightHulls$Table.usual()I
def f_X4_usual (c_this_size : Int) (c_this_gaps : Nat → Int) : Option Int := lq3 (fun (n6 : Int → Int → Int → Option Int) (v1_6 : Int) (v2_6 : Int) (v3_6 : Int) => if ltI 40 v3_6 = true then (some v1_6) else (bd1 (f_X4_manyOf v3_6 c_this_size c_this_gaps) (fun r14 => jn (fun (v1_30 : Int) (v2_30 : Int) => n6 v1_30 v2_30 (v3_6 + 1)) (fun (k30 : Int → Int → Option Int) => if ltI v2_6 r14 = true then (k30 v3_6 r14) else (k30 v1_6 v2_6))))) 300 0 0 0
abbrev rm_X4_usual : Room := { frames := 2, cells := 0, slots := 0, locals := 47 }
abbrev w_X4_usual (G : gG) (a_this : Nat) (a_this_gaps : Nat) (c_this_size : Int) (c_this_gaps : Nat → Int) : va_W := [(a_this, .inr (4, [.int (jz c_this_size), .ref a_this_gaps])), (a_this_gaps, aI G 25 c_this_gaps)]
theorem hd_X4_usual : yX4_usual.cls = RX4 ∧ yX4_usual.cls ≠ "java/lang/invoke/MethodHandle" ∧ yX4_usual.cls ≠ "java/lang/invoke/VarHandle" ∧ (parseMethodDescriptor yX4_usual.desc).map (fun d => d.parameters.length) = some 0 := by decide +kernel
set_option maxRecDepth 100000 in
set_option maxHeartbeats 4000000 in
theorem k_X4_usual {g : XC} (C : XOk g cX4_usual RX4 wsX4_usual rm_X4_usual 5) (a_this : Nat) (a_this_gaps : Nat) (c_this_size : Int) (c_this_gaps : Nat → Int)  (K : Int → Prop) (hK : ∀ (r : Int), K r → (narrow .int (.int (jz r)) = .int (jz r) → FinI g 0 0 (w_X4_usual (xG g) a_this a_this_gaps c_this_size c_this_gaps) (jz r))) (h : wp (f_X4_usual c_this_size c_this_gaps) K) : WW g 0 0 (w_X4_usual (xG g) a_this a_this_gaps c_this_size c_this_gaps) 0 [(0, .ref a_this)] [] := by
  unfold f_X4_usual at h
  refine r_iconst C (pc := 0) dX4_usual_0 ?_
  refine r_istore_n C (pc := 1) dX4_usual_1 rfl (by decide) (L' := [(0, .ref a_this), (1, .int (jz 0))]) rfl ?_
  refine r_iconst C (pc := 2) dX4_usual_2 ?_
  refine r_istore_n C (pc := 3) dX4_usual_3 rfl (by decide) (L' := [(0, .ref a_this), (1, .int (jz 0)), (2, .int (jz 0))]) rfl ?_
  refine r_iconst C (pc := 4) dX4_usual_4 ?_
  refine r_istore_n C (pc := 5) dX4_usual_5 rfl (by decide) (L' := [(0, .ref a_this), (1, .int (jz 0)), (2, .int (jz 0)), (3, .int (jz 0))]) rfl ?_
  refine lq3_e (fun (v1_6 : Int) (v2_6 : Int) (v3_6 : Int) => WW g 0 0 (w_X4_usual (xG g) a_this a_this_gaps c_this_size c_this_gaps) 6 [(0, .ref a_this), (1, .int (jz v1_6)), (2, .int (jz v2_6)), (3, .int (jz v3_6))] []) h (fun n6 hn6 v1_6 v2_6 v3_6 h => ?_)
  refine r_iload_n C (pc := 6) dX4_usual_6 rfl 3 rfl ?_
  refine r_bipush C (pc := 7) dX4_usual_7 rfl ?_
  refine r_icmp_gt C (pc := 9) 36 dX4_usual_9 rfl h (fun c9 h => ?_) (fun c9 h => ?_)
  · refine r_iload_n C (pc := 36) dX4_usual_36 rfl 1 rfl ?_
    exact r_iret C (pc := 37) dX4_usual_37 (hK v1_6 (wp_s h) rfl)
  · refine r_aload_n C (pc := 12) dX4_usual_12 rfl 0 rfl ?_
    refine r_iload_n C (pc := 13) dX4_usual_13 rfl 3 rfl ?_
    obtain ⟨r14, e14, h⟩ := wp_b1 h
    refine b_cVi C (pc := 14) dX4_usual_14 (c_X4_manyOf (xl g) (xG g) a_this a_this_gaps c_this_size c_this_gaps v3_6 r14 e14) rfl gX4_usual_X4_manyOf ⟨rfl, rfl⟩ 1 hd_X4_manyOf ⟨Nat.le_of_ble_eq_true rfl, Nat.le_of_ble_eq_true rfl⟩ rfl 0 rfl rfl rfl [0, 1] rfl (srt_nd 0 rfl) (ws' := w_X4_usual (xG g) a_this a_this_gaps c_this_size c_this_gaps) (Put.m rfl rfl rfl) rfl (rest := []) rfl (Nat.le_of_ble_eq_true rfl) ⟨Nat.zero_le _, Nat.zero_le _⟩ ?_
    refine r_istore C (pc := 17) dX4_usual_17 (by decide) (L' := [(0, .ref a_this), (1, .int (jz v1_6)), (2, .int (jz v2_6)), (3, .int (jz v3_6)), (4, .int (jz r14))]) rfl ?_
    refine r_iload C (pc := 19) dX4_usual_19 4 rfl ?_
    refine r_iload_n C (pc := 21) dX4_usual_21 rfl 2 rfl ?_
    refine jn_e (fun (k30 : Int → Int → Option Int) => ∀ (v1_30 : Int) (v2_30 : Int), wp (k30 v1_30 v2_30) K → WW g 0 0 (w_X4_usual (xG g) a_this a_this_gaps c_this_size c_this_gaps) 30 [(0, .ref a_this), (1, .int (jz v1_30)), (2, .int (jz v2_30)), (3, .int (jz v3_6))] []) h (fun v1_30 v2_30 h => ?_) (fun k30 hk30 h => ?_)
    · refine r_iinc C (pc := 30) dX4_usual_30 3 rfl (by decide) (L' := [(0, .ref a_this), (1, .int (jz v1_30)), (2, .int (jz v2_30)), (3, .int (jz (v3_6 + 1)))]) rfl ?_
      refine r_goto C (pc := 33) 6 dX4_usual_33 rfl ?_
      exact hn6 v1_30 v2_30 (v3_6 + 1) h
    · refine r_icmp_le C (pc := 22) 30 dX4_usual_22 rfl h (fun c22 h => ?_) (fun c22 h => ?_)
      · refine r_sub [0, 1, 2, 3] rfl ?_
        exact hk30 v1_6 v2_6 h
      · refine r_iload C (pc := 25) dX4_usual_25 4 rfl ?_
        refine r_istore_n C (pc := 27) dX4_usual_27 rfl (by decide) (L' := [(0, .ref a_this), (1, .int (jz v1_6)), (2, .int (jz r14)), (3, .int (jz v3_6)), (4, .int (jz r14))]) rfl ?_
        refine r_iload_n C (pc := 28) dX4_usual_28 rfl 3 rfl ?_
        refine r_istore_n C (pc := 29) dX4_usual_29 rfl (by decide) (L' := [(0, .ref a_this), (1, .int (jz v3_6)), (2, .int (jz r14)), (3, .int (jz v3_6)), (4, .int (jz r14))]) rfl ?_
        refine r_sub [0, 1, 2, 3] rfl ?_
        exact hk30 v3_6 r14 h
theorem c_X4_usual (l : Launch) (G : gG) (a_this : Nat) (a_this_gaps : Nat) (c_this_size : Int) (c_this_gaps : Nat → Int) (r : Int) (hf : f_X4_usual c_this_size c_this_gaps = some r) : CTi l yX4_usual wsX4_usual rm_X4_usual G (w_X4_usual G a_this a_this_gaps c_this_size c_this_gaps) [.ref a_this] (jz r) (w_X4_usual G a_this a_this_gaps c_this_size c_this_gaps) := CTi_of (by decide) rfl rfl (Nat.le_of_ble_eq_true rfl) (fun g C hG hl hF => by
    subst hG
    subst hl
    exact k_X4_usual C a_this a_this_gaps c_this_size c_this_gaps (fun x => x = r) (fun r' e => by cases e; exact hF) ⟨_, hf, rfl⟩)

-- TightHulls$Table.wayHome(LTightHulls$Table;III)I
def f_X4_wayHome : Nat → Int → Int → Int → Int → (Nat → Int) → Option Int
  | 0, _, _, _, _, _ => none
  | dd + 1, p2, p3, p4, c_p1_size, c_p1_gaps => if ltI 0 p4 = true then (lq2 (fun (n19 : Int → Int → Option Int) (v4_19 : Int) (v5_19 : Int) => if ltI v5_19 c_p1_size = true then (jn (fun (v4_71 : Int) => n19 v4_71 (v5_19 + 1)) (fun (k71 : Int → Option Int) => if eqI (andI p3 (shlI 1 v5_19)) 0 = true then (bd1 (f_X4_gap p2 v5_19 c_p1_size c_p1_gaps) (fun r41 => bd1 (f_X4_wayHome dd v5_19 (orI p3 (shlI 1 v5_19)) (p4 - 1) c_p1_size c_p1_gaps) (fun r56 => lv ((r41 + r56)) (fun x60 => lv ((minI v4_19 x60)) (fun x69 => k71 x69))))) else (k71 v4_19))) else (some v4_19)) 300 1000 1) else (bd1 (f_X4_gap p2 0 c_p1_size c_p1_gaps) (fun r7 => some r7))
abbrev rm_X4_wayHome (dd : Nat) : Room := { frames := 1 + dd, cells := 0, slots := 0, locals := 60 + 26 * dd }
abbrev w_X4_wayHome (G : gG) (a_p1 : Nat) (a_p1_gaps : Nat) (c_p1_size : Int) (c_p1_gaps : Nat → Int) : va_W := [(a_p1, .inr (4, [.int (jz c_p1_size), .ref a_p1_gaps])), (a_p1_gaps, aI G 25 c_p1_gaps)]
theorem hd_X4_wayHome : yX4_wayHome.cls ≠ "java/lang/invoke/MethodHandle" ∧ yX4_wayHome.cls ≠ "java/lang/invoke/VarHandle" ∧ (parseMethodDescriptor yX4_wayHome.desc).map (fun d => d.parameters.length) = some 4 := by decide +kernel
theorem in_X4_wayHome_X4 : ∀ w ∈ u_ws RX4 TX4 2, w ∈ wsX4_wayHome := fun w h => List.mem_cons_of_mem _ (List.mem_append_right _ (h))
theorem gf_X4_wayHome_28 : GF wsX4_wayHome RX4 28 4 0 := ⟨RX4, TX4, 2, rfl, in_X4_wayHome_X4, by decide, List.mem_of_getElem? (i := 1) rfl⟩
theorem mm_X4_wayHome_2 : Cond.methodLink RX4 19 Lib.Math.min.name ∈ wsX4_wayHome := List.mem_of_getElem? (i := 2) rfl
theorem mm_X4_wayHome_3 : Cond.static Lib.Math.min.name ∈ wsX4_wayHome := List.mem_of_getElem? (i := 3) rfl
theorem mm_X4_wayHome_4 : Cond.initialized "java/lang/Math" ∈ wsX4_wayHome := List.mem_of_getElem? (i := 4) rfl
theorem mm_X4_wayHome_5 : Cond.code Lib.Math.min.name Lib.Math.min.code 2 (some .int) ∈ wsX4_wayHome := List.mem_of_getElem? (i := 5) rfl
set_option maxRecDepth 100000 in
set_option maxHeartbeats 4000000 in
theorem k_X4_wayHome {dd : Nat} (IH : ∀ (l : Launch) (G : gG) (a_p1 : Nat) (a_p1_gaps : Nat) (c_p1_size : Int) (c_p1_gaps : Nat → Int) (p2 : Int) (p3 : Int) (p4 : Int) (r : Int), f_X4_wayHome dd p2 p3 p4 c_p1_size c_p1_gaps = some r → CTi l yX4_wayHome wsX4_wayHome (rm_X4_wayHome dd) G (w_X4_wayHome G a_p1 a_p1_gaps c_p1_size c_p1_gaps) [.ref a_p1, .int (jz p2), .int (jz p3), .int (jz p4)] (jz r) (w_X4_wayHome G a_p1 a_p1_gaps c_p1_size c_p1_gaps)) {g : XC} (C : XOk g cX4_wayHome RX4 wsX4_wayHome (rm_X4_wayHome (dd + 1)) 7) (a_p1 : Nat) (a_p1_gaps : Nat) (c_p1_size : Int) (c_p1_gaps : Nat → Int) (p2 : Int) (p3 : Int) (p4 : Int) (K : Int → Prop) (hK : ∀ (r : Int), K r → (narrow .int (.int (jz r)) = .int (jz r) → FinI g 0 0 (w_X4_wayHome (xG g) a_p1 a_p1_gaps c_p1_size c_p1_gaps) (jz r))) (h : wp (f_X4_wayHome (dd + 1) p2 p3 p4 c_p1_size c_p1_gaps) K) : WW g 0 0 (w_X4_wayHome (xG g) a_p1 a_p1_gaps c_p1_size c_p1_gaps) 0 [(0, .ref a_p1), (1, .int (jz p2)), (2, .int (jz p3)), (3, .int (jz p4))] [] := by
  rw [f_X4_wayHome] at h
  refine r_iload_n C (pc := 0) dX4_wayHome_0 rfl 3 rfl ?_
  refine r_if_gt C (pc := 1) 11 dX4_wayHome_1 rfl h (fun c1 h => ?_) (fun c1 h => ?_)
  · refine r_sipush C (pc := 11) dX4_wayHome_11 rfl ?_
    refine r_istore C (pc := 14) dX4_wayHome_14 (by decide) (L' := [(0, .ref a_p1), (1, .int (jz p2)), (2, .int (jz p3)), (3, .int (jz p4)), (4, .int (jz 1000))]) rfl ?_
    refine r_iconst C (pc := 16) dX4_wayHome_16 ?_
    refine r_istore C (pc := 17) dX4_wayHome_17 (by decide) (L' := [(0, .ref a_p1), (1, .int (jz p2)), (2, .int (jz p3)), (3, .int (jz p4)), (4, .int (jz 1000)), (5, .int (jz 1))]) rfl ?_
    refine lq2_e (fun (v4_19 : Int) (v5_19 : Int) => WW g 0 0 (w_X4_wayHome (xG g) a_p1 a_p1_gaps c_p1_size c_p1_gaps) 19 [(0, .ref a_p1), (1, .int (jz p2)), (2, .int (jz p3)), (3, .int (jz p4)), (4, .int (jz v4_19)), (5, .int (jz v5_19))] []) h (fun n19 hn19 v4_19 v5_19 h => ?_)
    refine r_iload C (pc := 19) dX4_wayHome_19 5 rfl ?_
    refine r_aload_n C (pc := 21) dX4_wayHome_21 rfl 0 rfl ?_
    refine r_get C (pc := 22) dX4_wayHome_22 gf_X4_wayHome_28 0 rfl rfl ?_
    refine r_icmp_ge C (pc := 25) 77 dX4_wayHome_25 rfl h (fun c25 h => ?_) (fun c25 h => ?_)
    · refine r_iload C (pc := 77) dX4_wayHome_77 4 rfl ?_
      exact r_iret C (pc := 79) dX4_wayHome_79 (hK v4_19 (wp_s h) rfl)
    · refine r_iload_n C (pc := 28) dX4_wayHome_28 rfl 2 rfl ?_
      refine r_iconst C (pc := 29) dX4_wayHome_29 ?_
      refine r_iload C (pc := 30) dX4_wayHome_30 5 rfl ?_
      refine r_ishl C (pc := 32) dX4_wayHome_32 ?_
      refine r_iand C (pc := 33) dX4_wayHome_33 ?_
      refine jn_e (fun (k71 : Int → Option Int) => ∀ (v4_71 : Int), wp (k71 v4_71) K → WW g 0 0 (w_X4_wayHome (xG g) a_p1 a_p1_gaps c_p1_size c_p1_gaps) 71 [(0, .ref a_p1), (1, .int (jz p2)), (2, .int (jz p3)), (3, .int (jz p4)), (4, .int (jz v4_71)), (5, .int (jz v5_19))] []) h (fun v4_71 h => ?_) (fun k71 hk71 h => ?_)
      · refine r_iinc C (pc := 71) dX4_wayHome_71 5 rfl (by decide) (L' := [(0, .ref a_p1), (1, .int (jz p2)), (2, .int (jz p3)), (3, .int (jz p4)), (4, .int (jz v4_71)), (5, .int (jz (v5_19 + 1)))]) rfl ?_
        refine r_goto C (pc := 74) 19 dX4_wayHome_74 rfl ?_
        exact hn19 v4_71 (v5_19 + 1) h
      · refine r_if_ne C (pc := 34) 71 dX4_wayHome_34 rfl h (fun c34 h => ?_) (fun c34 h => ?_)
        · exact hk71 v4_19 h
        · refine r_aload_n C (pc := 37) dX4_wayHome_37 rfl 0 rfl ?_
          refine r_iload_n C (pc := 38) dX4_wayHome_38 rfl 1 rfl ?_
          refine r_iload C (pc := 39) dX4_wayHome_39 5 rfl ?_
          obtain ⟨r41, e41, h⟩ := wp_b1 h
          refine b_cVi C (pc := 41) dX4_wayHome_41 (c_X4_gap (xl g) (xG g) a_p1 a_p1_gaps c_p1_size c_p1_gaps p2 v5_19 r41 e41) rfl gX4_wayHome_X4_gap ⟨rfl, rfl⟩ 2 hd_X4_gap ⟨by simp [rm_X4_wayHome, rm_X4_gap]; try omega, by simp [rm_X4_wayHome, rm_X4_gap]; try omega⟩ rfl 0 rfl rfl rfl [0, 1] rfl (srt_nd 0 rfl) (ws' := w_X4_wayHome (xG g) a_p1 a_p1_gaps c_p1_size c_p1_gaps) (Put.m rfl rfl rfl) rfl (rest := []) rfl (Nat.le_of_ble_eq_true rfl) ⟨Nat.zero_le _, Nat.zero_le _⟩ ?_
          refine r_aload_n C (pc := 44) dX4_wayHome_44 rfl 0 rfl ?_
          refine r_iload C (pc := 45) dX4_wayHome_45 5 rfl ?_
          refine r_iload_n C (pc := 47) dX4_wayHome_47 rfl 2 rfl ?_
          refine r_iconst C (pc := 48) dX4_wayHome_48 ?_
          refine r_iload C (pc := 49) dX4_wayHome_49 5 rfl ?_
          refine r_ishl C (pc := 51) dX4_wayHome_51 ?_
          refine r_ior C (pc := 52) dX4_wayHome_52 ?_
          refine r_iload_n C (pc := 53) dX4_wayHome_53 rfl 3 rfl ?_
          refine r_iconst C (pc := 54) dX4_wayHome_54 ?_
          refine r_isub C (pc := 55) dX4_wayHome_55 ?_
          obtain ⟨r56, e56, h⟩ := wp_b1 h
          refine b_cSi C (pc := 56) dX4_wayHome_56 (IH (xl g) (xG g) a_p1 a_p1_gaps c_p1_size c_p1_gaps v5_19 (orI p3 (shlI 1 v5_19)) (p4 - 1) r56 e56) rfl gX4_wayHome_X4_wayHome ⟨rfl, rfl⟩ 4 hd_X4_wayHome ⟨by simp [rm_X4_wayHome, rm_X4_wayHome]; try omega, by simp [rm_X4_wayHome, rm_X4_wayHome]; try omega⟩ rfl [0, 1] rfl (srt_nd 0 rfl) (ws' := w_X4_wayHome (xG g) a_p1 a_p1_gaps c_p1_size c_p1_gaps) (Put.m rfl rfl rfl) rfl (rest := [.int (jz r41)]) rfl (Nat.le_of_ble_eq_true rfl) ⟨Nat.zero_le _, Nat.zero_le _⟩ ?_
          refine r_iadd C (pc := 59) dX4_wayHome_59 ?_
          refine r_let h (fun x60 h => ?_)
          refine r_istore C (pc := 60) dX4_wayHome_60 (by decide) (L' := [(0, .ref a_p1), (1, .int (jz p2)), (2, .int (jz p3)), (3, .int (jz p4)), (4, .int (jz v4_19)), (5, .int (jz v5_19)), (6, .int (jz x60))]) rfl ?_
          refine r_iload C (pc := 62) dX4_wayHome_62 4 rfl ?_
          refine r_iload C (pc := 64) dX4_wayHome_64 6 rfl ?_
          refine r_mmin C (pc := 66) dX4_wayHome_66 mm_X4_wayHome_2 mm_X4_wayHome_3 mm_X4_wayHome_4 mm_X4_wayHome_5 (by simp [rm_X4_wayHome]; try omega) (by simp [rm_X4_wayHome, Value.category, nativeFrameWords]; try omega) ⟨Nat.zero_le _, Nat.zero_le _⟩ ?_
          refine r_let h (fun x69 h => ?_)
          refine r_istore C (pc := 69) dX4_wayHome_69 (by decide) (L' := [(0, .ref a_p1), (1, .int (jz p2)), (2, .int (jz p3)), (3, .int (jz p4)), (4, .int (jz x69)), (5, .int (jz v5_19)), (6, .int (jz x60))]) rfl ?_
          refine r_sub [0, 1, 2, 3, 4, 5] rfl ?_
          exact hk71 x69 h
  · refine r_aload_n C (pc := 4) dX4_wayHome_4 rfl 0 rfl ?_
    refine r_iload_n C (pc := 5) dX4_wayHome_5 rfl 1 rfl ?_
    refine r_iconst C (pc := 6) dX4_wayHome_6 ?_
    obtain ⟨r7, e7, h⟩ := wp_b1 h
    refine b_cVi C (pc := 7) dX4_wayHome_7 (c_X4_gap (xl g) (xG g) a_p1 a_p1_gaps c_p1_size c_p1_gaps p2 0 r7 e7) rfl gX4_wayHome_X4_gap ⟨rfl, rfl⟩ 2 hd_X4_gap ⟨by simp [rm_X4_wayHome, rm_X4_gap]; try omega, by simp [rm_X4_wayHome, rm_X4_gap]; try omega⟩ rfl 0 rfl rfl rfl [0, 1] rfl (srt_nd 0 rfl) (ws' := w_X4_wayHome (xG g) a_p1 a_p1_gaps c_p1_size c_p1_gaps) (Put.m rfl rfl rfl) rfl (rest := []) rfl (Nat.le_of_ble_eq_true rfl) ⟨Nat.zero_le _, Nat.zero_le _⟩ ?_
    exact r_iret C (pc := 10) dX4_wayHome_10 (hK r7 (wp_s h) rfl)
theorem c_X4_wayHome (l : Launch) (G : gG) (dd : Nat) (a_p1 : Nat) (a_p1_gaps : Nat) (c_p1_size : Int) (c_p1_gaps : Nat → Int) (p2 : Int) (p3 : Int) (p4 : Int) (r : Int) (hf : f_X4_wayHome dd p2 p3 p4 c_p1_size c_p1_gaps = some r) : CTi l yX4_wayHome wsX4_wayHome (rm_X4_wayHome dd) G (w_X4_wayHome G a_p1 a_p1_gaps c_p1_size c_p1_gaps) [.ref a_p1, .int (jz p2), .int (jz p3), .int (jz p4)] (jz r) (w_X4_wayHome G a_p1 a_p1_gaps c_p1_size c_p1_gaps) := by
  induction dd generalizing l G a_p1 a_p1_gaps c_p1_size c_p1_gaps p2 p3 p4 r with
  | zero =>
    rw [f_X4_wayHome] at hf
    cases hf
  | succ dd ih =>
    have IH : ∀ (l : Launch) (G : gG) (a_p1 : Nat) (a_p1_gaps : Nat) (c_p1_size : Int) (c_p1_gaps : Nat → Int) (p2 : Int) (p3 : Int) (p4 : Int) (r : Int), f_X4_wayHome dd p2 p3 p4 c_p1_size c_p1_gaps = some r → CTi l yX4_wayHome wsX4_wayHome (rm_X4_wayHome dd) G (w_X4_wayHome G a_p1 a_p1_gaps c_p1_size c_p1_gaps) [.ref a_p1, .int (jz p2), .int (jz p3), .int (jz p4)] (jz r) (w_X4_wayHome G a_p1 a_p1_gaps c_p1_size c_p1_gaps) := fun l G a_p1 a_p1_gaps c_p1_size c_p1_gaps p2 p3 p4 r hf => ih l G a_p1 a_p1_gaps c_p1_size c_p1_gaps p2 p3 p4 r hf
    exact CTi_of (by decide) rfl rfl (Nat.le_of_ble_eq_true rfl) (fun g C hG hl hF => by
      subst hG
      subst hl
      exact k_X4_wayHome IH C a_p1 a_p1_gaps c_p1_size c_p1_gaps p2 p3 p4 (fun x => x = r) (fun r' e => by cases e; exact hF) ⟨_, hf, rfl⟩)

-- TightHulls$Table.leastRound()I
def f_X4_leastRound (c_this_size : Int) (c_this_gaps : Nat → Int) : Option Int := bd1 (f_X4_wayHome 8 0 1 (c_this_size - 1) c_this_size c_this_gaps) (fun r9 => some r9)
abbrev rm_X4_leastRound : Room := { frames := 10, cells := 0, slots := 0, locals := 294 }
abbrev w_X4_leastRound (G : gG) (a_this : Nat) (a_this_gaps : Nat) (c_this_size : Int) (c_this_gaps : Nat → Int) : va_W := [(a_this, .inr (4, [.int (jz c_this_size), .ref a_this_gaps])), (a_this_gaps, aI G 25 c_this_gaps)]
theorem hd_X4_leastRound : yX4_leastRound.cls = RX4 ∧ yX4_leastRound.cls ≠ "java/lang/invoke/MethodHandle" ∧ yX4_leastRound.cls ≠ "java/lang/invoke/VarHandle" ∧ (parseMethodDescriptor yX4_leastRound.desc).map (fun d => d.parameters.length) = some 0 := by decide +kernel
theorem in_X4_leastRound_X4 : ∀ w ∈ u_ws RX4 TX4 2, w ∈ wsX4_leastRound := fun w h => List.mem_cons_of_mem _ (List.mem_append_right _ (h))
theorem gf_X4_leastRound_28 : GF wsX4_leastRound RX4 28 4 0 := ⟨RX4, TX4, 2, rfl, in_X4_leastRound_X4, by decide, List.mem_of_getElem? (i := 1) rfl⟩
set_option maxRecDepth 100000 in
set_option maxHeartbeats 4000000 in
theorem k_X4_leastRound {g : XC} (C : XOk g cX4_leastRound RX4 wsX4_leastRound rm_X4_leastRound 1) (a_this : Nat) (a_this_gaps : Nat) (c_this_size : Int) (c_this_gaps : Nat → Int)  (K : Int → Prop) (hK : ∀ (r : Int), K r → (narrow .int (.int (jz r)) = .int (jz r) → FinI g 0 0 (w_X4_leastRound (xG g) a_this a_this_gaps c_this_size c_this_gaps) (jz r))) (h : wp (f_X4_leastRound c_this_size c_this_gaps) K) : WW g 0 0 (w_X4_leastRound (xG g) a_this a_this_gaps c_this_size c_this_gaps) 0 [(0, .ref a_this)] [] := by
  unfold f_X4_leastRound at h
  refine r_aload_n C (pc := 0) dX4_leastRound_0 rfl 0 rfl ?_
  refine r_iconst C (pc := 1) dX4_leastRound_1 ?_
  refine r_iconst C (pc := 2) dX4_leastRound_2 ?_
  refine r_aload_n C (pc := 3) dX4_leastRound_3 rfl 0 rfl ?_
  refine r_get C (pc := 4) dX4_leastRound_4 gf_X4_leastRound_28 0 rfl rfl ?_
  refine r_iconst C (pc := 7) dX4_leastRound_7 ?_
  refine r_isub C (pc := 8) dX4_leastRound_8 ?_
  obtain ⟨r9, e9, h⟩ := wp_b1 h
  refine b_cSi C (pc := 9) dX4_leastRound_9 (c_X4_wayHome (xl g) (xG g) 8 a_this a_this_gaps c_this_size c_this_gaps 0 1 (c_this_size - 1) r9 e9) rfl gX4_leastRound_X4_wayHome ⟨rfl, rfl⟩ 4 hd_X4_wayHome ⟨Nat.le_of_ble_eq_true rfl, Nat.le_of_ble_eq_true rfl⟩ rfl [0, 1] rfl (srt_nd 0 rfl) (ws' := w_X4_leastRound (xG g) a_this a_this_gaps c_this_size c_this_gaps) (Put.m rfl rfl rfl) rfl (rest := []) rfl (Nat.le_of_ble_eq_true rfl) ⟨Nat.zero_le _, Nat.zero_le _⟩ ?_
  exact r_iret C (pc := 12) dX4_leastRound_12 (hK r9 (wp_s h) rfl)
theorem c_X4_leastRound (l : Launch) (G : gG) (a_this : Nat) (a_this_gaps : Nat) (c_this_size : Int) (c_this_gaps : Nat → Int) (r : Int) (hf : f_X4_leastRound c_this_size c_this_gaps = some r) : CTi l yX4_leastRound wsX4_leastRound rm_X4_leastRound G (w_X4_leastRound G a_this a_this_gaps c_this_size c_this_gaps) [.ref a_this] (jz r) (w_X4_leastRound G a_this a_this_gaps c_this_size c_this_gaps) := CTi_of (by decide) rfl rfl (Nat.le_of_ble_eq_true rfl) (fun g C hG hl hF => by
    subst hG
    subst hl
    exact k_X4_leastRound C a_this a_this_gaps c_this_size c_this_gaps (fun x => x = r) (fun r' e => by cases e; exact hF) ⟨_, hf, rfl⟩)

-- TightHulls$Table.mayGo(LTightHulls$Table;III)Z
def f_X4_mayGo (p2 : Int) (p3 : Int) (p4 : Int) (c_p1_size : Int) (c_p1_gaps : Nat → Int) : Option Int := lq1 (fun (n3 : Int → Option Int) (v4_3 : Int) => if ltI v4_3 p2 = true then (lv ((andI (shrI p4 (3 * v4_3)) 7)) (fun x18 => jn (some 0) (fun (k43 : Option Int) => if eqI x18 p3 = true then k43 else (bd1 (f_X4_gap x18 p3 c_p1_size c_p1_gaps) (fun r30 => bd1 (f_X4_gap v4_3 p2 c_p1_size c_p1_gaps) (fun r37 => if eqI r30 r37 = true then (n3 (v4_3 + 1)) else k43)))))) else (some 1)) 300 0
abbrev rm_X4_mayGo : Room := { frames := 1, cells := 0, slots := 0, locals := 23 }
abbrev w_X4_mayGo (G : gG) (a_p1 : Nat) (a_p1_gaps : Nat) (c_p1_size : Int) (c_p1_gaps : Nat → Int) : va_W := [(a_p1, .inr (4, [.int (jz c_p1_size), .ref a_p1_gaps])), (a_p1_gaps, aI G 25 c_p1_gaps)]
theorem hd_X4_mayGo : yX4_mayGo.cls ≠ "java/lang/invoke/MethodHandle" ∧ yX4_mayGo.cls ≠ "java/lang/invoke/VarHandle" ∧ (parseMethodDescriptor yX4_mayGo.desc).map (fun d => d.parameters.length) = some 4 := by decide +kernel
set_option maxRecDepth 100000 in
set_option maxHeartbeats 4000000 in
theorem k_X4_mayGo {g : XC} (C : XOk g cX4_mayGo RX4 wsX4_mayGo rm_X4_mayGo 6) (a_p1 : Nat) (a_p1_gaps : Nat) (c_p1_size : Int) (c_p1_gaps : Nat → Int) (p2 : Int) (p3 : Int) (p4 : Int) (K : Int → Prop) (hK : ∀ (r : Int), K r → (narrow .boolean (.int (jz r)) = .int (jz r) → FinI g 0 0 (w_X4_mayGo (xG g) a_p1 a_p1_gaps c_p1_size c_p1_gaps) (jz r))) (h : wp (f_X4_mayGo p2 p3 p4 c_p1_size c_p1_gaps) K) : WW g 0 0 (w_X4_mayGo (xG g) a_p1 a_p1_gaps c_p1_size c_p1_gaps) 0 [(0, .ref a_p1), (1, .int (jz p2)), (2, .int (jz p3)), (3, .int (jz p4))] [] := by
  unfold f_X4_mayGo at h
  refine r_iconst C (pc := 0) dX4_mayGo_0 ?_
  refine r_istore C (pc := 1) dX4_mayGo_1 (by decide) (L' := [(0, .ref a_p1), (1, .int (jz p2)), (2, .int (jz p3)), (3, .int (jz p4)), (4, .int (jz 0))]) rfl ?_
  refine lq1_e (fun (v4_3 : Int) => WW g 0 0 (w_X4_mayGo (xG g) a_p1 a_p1_gaps c_p1_size c_p1_gaps) 3 [(0, .ref a_p1), (1, .int (jz p2)), (2, .int (jz p3)), (3, .int (jz p4)), (4, .int (jz v4_3))] []) h (fun n3 hn3 v4_3 h => ?_)
  refine r_iload C (pc := 3) dX4_mayGo_3 4 rfl ?_
  refine r_iload_n C (pc := 5) dX4_mayGo_5 rfl 1 rfl ?_
  refine r_icmp_ge C (pc := 6) 51 dX4_mayGo_6 rfl h (fun c6 h => ?_) (fun c6 h => ?_)
  · refine r_iconst C (pc := 51) dX4_mayGo_51 ?_
    exact r_iret C (pc := 52) dX4_mayGo_52 (hK 1 (wp_s h) (nB rfl).1)
  · refine r_iload_n C (pc := 9) dX4_mayGo_9 rfl 3 rfl ?_
    refine r_iconst C (pc := 10) dX4_mayGo_10 ?_
    refine r_iload C (pc := 11) dX4_mayGo_11 4 rfl ?_
    refine r_imul C (pc := 13) dX4_mayGo_13 ?_
    refine r_ishr C (pc := 14) dX4_mayGo_14 ?_
    refine r_bipush C (pc := 15) dX4_mayGo_15 rfl ?_
    refine r_iand C (pc := 17) dX4_mayGo_17 ?_
    refine r_let h (fun x18 h => ?_)
    refine r_istore C (pc := 18) dX4_mayGo_18 (by decide) (L' := [(0, .ref a_p1), (1, .int (jz p2)), (2, .int (jz p3)), (3, .int (jz p4)), (4, .int (jz v4_3)), (5, .int (jz x18))]) rfl ?_
    refine r_iload C (pc := 20) dX4_mayGo_20 5 rfl ?_
    refine r_iload_n C (pc := 22) dX4_mayGo_22 rfl 2 rfl ?_
    refine jn_e (fun (k43 : Option Int) => wp (k43) K → WW g 0 0 (w_X4_mayGo (xG g) a_p1 a_p1_gaps c_p1_size c_p1_gaps) 43 [] []) h (fun h => ?_) (fun k43 hk43 h => ?_)
    · refine r_iconst C (pc := 43) dX4_mayGo_43 ?_
      exact r_iret C (pc := 44) dX4_mayGo_44 (hK 0 (wp_s h) (nB rfl).1)
    · refine r_icmp_eq C (pc := 23) 43 dX4_mayGo_23 rfl h (fun c23 h => ?_) (fun c23 h => ?_)
      · refine r_sub [] rfl ?_
        exact hk43 h
      · refine r_aload_n C (pc := 26) dX4_mayGo_26 rfl 0 rfl ?_
        refine r_iload C (pc := 27) dX4_mayGo_27 5 rfl ?_
        refine r_iload_n C (pc := 29) dX4_mayGo_29 rfl 2 rfl ?_
        obtain ⟨r30, e30, h⟩ := wp_b1 h
        refine b_cVi C (pc := 30) dX4_mayGo_30 (c_X4_gap (xl g) (xG g) a_p1 a_p1_gaps c_p1_size c_p1_gaps x18 p3 r30 e30) rfl gX4_mayGo_X4_gap ⟨rfl, rfl⟩ 2 hd_X4_gap ⟨Nat.le_of_ble_eq_true rfl, Nat.le_of_ble_eq_true rfl⟩ rfl 0 rfl rfl rfl [0, 1] rfl (srt_nd 0 rfl) (ws' := w_X4_mayGo (xG g) a_p1 a_p1_gaps c_p1_size c_p1_gaps) (Put.m rfl rfl rfl) rfl (rest := []) rfl (Nat.le_of_ble_eq_true rfl) ⟨Nat.zero_le _, Nat.zero_le _⟩ ?_
        refine r_aload_n C (pc := 33) dX4_mayGo_33 rfl 0 rfl ?_
        refine r_iload C (pc := 34) dX4_mayGo_34 4 rfl ?_
        refine r_iload_n C (pc := 36) dX4_mayGo_36 rfl 1 rfl ?_
        obtain ⟨r37, e37, h⟩ := wp_b1 h
        refine b_cVi C (pc := 37) dX4_mayGo_37 (c_X4_gap (xl g) (xG g) a_p1 a_p1_gaps c_p1_size c_p1_gaps v4_3 p2 r37 e37) rfl gX4_mayGo_X4_gap ⟨rfl, rfl⟩ 2 hd_X4_gap ⟨Nat.le_of_ble_eq_true rfl, Nat.le_of_ble_eq_true rfl⟩ rfl 0 rfl rfl rfl [0, 1] rfl (srt_nd 0 rfl) (ws' := w_X4_mayGo (xG g) a_p1 a_p1_gaps c_p1_size c_p1_gaps) (Put.m rfl rfl rfl) rfl (rest := [.int (jz r30)]) rfl (Nat.le_of_ble_eq_true rfl) ⟨Nat.zero_le _, Nat.zero_le _⟩ ?_
        refine r_icmp_eq C (pc := 40) 45 dX4_mayGo_40 rfl h (fun c40 h => ?_) (fun c40 h => ?_)
        · refine r_iinc C (pc := 45) dX4_mayGo_45 4 rfl (by decide) (L' := [(0, .ref a_p1), (1, .int (jz p2)), (2, .int (jz p3)), (3, .int (jz p4)), (4, .int (jz (v4_3 + 1))), (5, .int (jz x18))]) rfl ?_
          refine r_goto C (pc := 48) 3 dX4_mayGo_48 rfl ?_
          refine r_sub [0, 1, 2, 3, 4] rfl ?_
          exact hn3 (v4_3 + 1) h
        · refine r_sub [] rfl ?_
          exact hk43 h
theorem c_X4_mayGo (l : Launch) (G : gG) (a_p1 : Nat) (a_p1_gaps : Nat) (c_p1_size : Int) (c_p1_gaps : Nat → Int) (p2 : Int) (p3 : Int) (p4 : Int) (r : Int) (hf : f_X4_mayGo p2 p3 p4 c_p1_size c_p1_gaps = some r) : CTi l yX4_mayGo wsX4_mayGo rm_X4_mayGo G (w_X4_mayGo G a_p1 a_p1_gaps c_p1_size c_p1_gaps) [.ref a_p1, .int (jz p2), .int (jz p3), .int (jz p4)] (jz r) (w_X4_mayGo G a_p1 a_p1_gaps c_p1_size c_p1_gaps) := CTi_of (by decide) rfl rfl (Nat.le_of_ble_eq_true rfl) (fun g C hG hl hF => by
    subst hG
    subst hl
    exact k_X4_mayGo C a_p1 a_p1_gaps c_p1_size c_p1_gaps p2 p3 p4 (fun x => x = r) (fun r' e => by cases e; exact hF) ⟨_, hf, rfl⟩)

-- TightHulls$Table.keepersWith(LTightHulls$Table;II)I
def f_X4_keepersWith : Nat → Int → Int → Int → (Nat → Int) → Option Int
  | 0, _, _, _, _ => none
  | dd + 1, p2, p3, c_p1_size, c_p1_gaps => if ltI p2 c_p1_size = true then (lq2 (fun (n15 : Int → Int → Option Int) (v3_15 : Int) (v4_15 : Int) => if ltI v4_15 c_p1_size = true then (bd1 (f_X4_mayGo p2 v4_15 p3 c_p1_size c_p1_gaps) (fun r29 => jn (fun (v3_53 : Int) => n15 v3_53 (v4_15 + 1)) (fun (k53 : Int → Option Int) => if eqI r29 0 = true then (k53 v3_15) else (bd1 (f_X4_keepersWith dd (p2 + 1) (orI p3 (shlI v4_15 (3 * p2))) c_p1_size c_p1_gaps) (fun r48 => lv ((v3_15 + r48)) (fun x52 => k53 x52)))))) else (some v3_15)) 300 0 0) else (some 1)
abbrev rm_X4_keepersWith (dd : Nat) : Room := { frames := 2 + dd, cells := 0, slots := 0, locals := 48 + 24 * dd }
abbrev w_X4_keepersWith (G : gG) (a_p1 : Nat) (a_p1_gaps : Nat) (c_p1_size : Int) (c_p1_gaps : Nat → Int) : va_W := [(a_p1, .inr (4, [.int (jz c_p1_size), .ref a_p1_gaps])), (a_p1_gaps, aI G 25 c_p1_gaps)]
theorem hd_X4_keepersWith : yX4_keepersWith.cls ≠ "java/lang/invoke/MethodHandle" ∧ yX4_keepersWith.cls ≠ "java/lang/invoke/VarHandle" ∧ (parseMethodDescriptor yX4_keepersWith.desc).map (fun d => d.parameters.length) = some 3 := by decide +kernel
theorem in_X4_keepersWith_X4 : ∀ w ∈ u_ws RX4 TX4 2, w ∈ wsX4_keepersWith := fun w h => List.mem_cons_of_mem _ (List.mem_append_right _ (h))
theorem gf_X4_keepersWith_28 : GF wsX4_keepersWith RX4 28 4 0 := ⟨RX4, TX4, 2, rfl, in_X4_keepersWith_X4, by decide, List.mem_of_getElem? (i := 1) rfl⟩
set_option maxRecDepth 100000 in
set_option maxHeartbeats 4000000 in
theorem k_X4_keepersWith {dd : Nat} (IH : ∀ (l : Launch) (G : gG) (a_p1 : Nat) (a_p1_gaps : Nat) (c_p1_size : Int) (c_p1_gaps : Nat → Int) (p2 : Int) (p3 : Int) (r : Int), f_X4_keepersWith dd p2 p3 c_p1_size c_p1_gaps = some r → CTi l yX4_keepersWith wsX4_keepersWith (rm_X4_keepersWith dd) G (w_X4_keepersWith G a_p1 a_p1_gaps c_p1_size c_p1_gaps) [.ref a_p1, .int (jz p2), .int (jz p3)] (jz r) (w_X4_keepersWith G a_p1 a_p1_gaps c_p1_size c_p1_gaps)) {g : XC} (C : XOk g cX4_keepersWith RX4 wsX4_keepersWith (rm_X4_keepersWith (dd + 1)) 5) (a_p1 : Nat) (a_p1_gaps : Nat) (c_p1_size : Int) (c_p1_gaps : Nat → Int) (p2 : Int) (p3 : Int) (K : Int → Prop) (hK : ∀ (r : Int), K r → (narrow .int (.int (jz r)) = .int (jz r) → FinI g 0 0 (w_X4_keepersWith (xG g) a_p1 a_p1_gaps c_p1_size c_p1_gaps) (jz r))) (h : wp (f_X4_keepersWith (dd + 1) p2 p3 c_p1_size c_p1_gaps) K) : WW g 0 0 (w_X4_keepersWith (xG g) a_p1 a_p1_gaps c_p1_size c_p1_gaps) 0 [(0, .ref a_p1), (1, .int (jz p2)), (2, .int (jz p3))] [] := by
  rw [f_X4_keepersWith] at h
  refine r_iload_n C (pc := 0) dX4_keepersWith_0 rfl 1 rfl ?_
  refine r_aload_n C (pc := 1) dX4_keepersWith_1 rfl 0 rfl ?_
  refine r_get C (pc := 2) dX4_keepersWith_2 gf_X4_keepersWith_28 0 rfl rfl ?_
  refine r_icmp_lt C (pc := 5) 10 dX4_keepersWith_5 rfl h (fun c5 h => ?_) (fun c5 h => ?_)
  · refine r_iconst C (pc := 10) dX4_keepersWith_10 ?_
    refine r_istore_n C (pc := 11) dX4_keepersWith_11 rfl (by decide) (L' := [(0, .ref a_p1), (1, .int (jz p2)), (2, .int (jz p3)), (3, .int (jz 0))]) rfl ?_
    refine r_iconst C (pc := 12) dX4_keepersWith_12 ?_
    refine r_istore C (pc := 13) dX4_keepersWith_13 (by decide) (L' := [(0, .ref a_p1), (1, .int (jz p2)), (2, .int (jz p3)), (3, .int (jz 0)), (4, .int (jz 0))]) rfl ?_
    refine lq2_e (fun (v3_15 : Int) (v4_15 : Int) => WW g 0 0 (w_X4_keepersWith (xG g) a_p1 a_p1_gaps c_p1_size c_p1_gaps) 15 [(0, .ref a_p1), (1, .int (jz p2)), (2, .int (jz p3)), (3, .int (jz v3_15)), (4, .int (jz v4_15))] []) h (fun n15 hn15 v3_15 v4_15 h => ?_)
    refine r_iload C (pc := 15) dX4_keepersWith_15 4 rfl ?_
    refine r_aload_n C (pc := 17) dX4_keepersWith_17 rfl 0 rfl ?_
    refine r_get C (pc := 18) dX4_keepersWith_18 gf_X4_keepersWith_28 0 rfl rfl ?_
    refine r_icmp_ge C (pc := 21) 59 dX4_keepersWith_21 rfl h (fun c21 h => ?_) (fun c21 h => ?_)
    · refine r_iload_n C (pc := 59) dX4_keepersWith_59 rfl 3 rfl ?_
      exact r_iret C (pc := 60) dX4_keepersWith_60 (hK v3_15 (wp_s h) rfl)
    · refine r_aload_n C (pc := 24) dX4_keepersWith_24 rfl 0 rfl ?_
      refine r_iload_n C (pc := 25) dX4_keepersWith_25 rfl 1 rfl ?_
      refine r_iload C (pc := 26) dX4_keepersWith_26 4 rfl ?_
      refine r_iload_n C (pc := 28) dX4_keepersWith_28 rfl 2 rfl ?_
      obtain ⟨r29, e29, h⟩ := wp_b1 h
      refine b_cSi C (pc := 29) dX4_keepersWith_29 (c_X4_mayGo (xl g) (xG g) a_p1 a_p1_gaps c_p1_size c_p1_gaps p2 v4_15 p3 r29 e29) rfl gX4_keepersWith_X4_mayGo ⟨rfl, rfl⟩ 4 hd_X4_mayGo ⟨by simp [rm_X4_keepersWith, rm_X4_mayGo]; try omega, by simp [rm_X4_keepersWith, rm_X4_mayGo]; try omega⟩ rfl [0, 1] rfl (srt_nd 0 rfl) (ws' := w_X4_keepersWith (xG g) a_p1 a_p1_gaps c_p1_size c_p1_gaps) (Put.m rfl rfl rfl) rfl (rest := []) rfl (Nat.le_of_ble_eq_true rfl) ⟨Nat.zero_le _, Nat.zero_le _⟩ ?_
      refine jn_e (fun (k53 : Int → Option Int) => ∀ (v3_53 : Int), wp (k53 v3_53) K → WW g 0 0 (w_X4_keepersWith (xG g) a_p1 a_p1_gaps c_p1_size c_p1_gaps) 53 [(0, .ref a_p1), (1, .int (jz p2)), (2, .int (jz p3)), (3, .int (jz v3_53)), (4, .int (jz v4_15))] []) h (fun v3_53 h => ?_) (fun k53 hk53 h => ?_)
      · refine r_iinc C (pc := 53) dX4_keepersWith_53 4 rfl (by decide) (L' := [(0, .ref a_p1), (1, .int (jz p2)), (2, .int (jz p3)), (3, .int (jz v3_53)), (4, .int (jz (v4_15 + 1)))]) rfl ?_
        refine r_goto C (pc := 56) 15 dX4_keepersWith_56 rfl ?_
        exact hn15 v3_53 (v4_15 + 1) h
      · refine r_if_eq C (pc := 32) 53 dX4_keepersWith_32 rfl h (fun c32 h => ?_) (fun c32 h => ?_)
        · exact hk53 v3_15 h
        · refine r_iload_n C (pc := 35) dX4_keepersWith_35 rfl 3 rfl ?_
          refine r_aload_n C (pc := 36) dX4_keepersWith_36 rfl 0 rfl ?_
          refine r_iload_n C (pc := 37) dX4_keepersWith_37 rfl 1 rfl ?_
          refine r_iconst C (pc := 38) dX4_keepersWith_38 ?_
          refine r_iadd C (pc := 39) dX4_keepersWith_39 ?_
          refine r_iload_n C (pc := 40) dX4_keepersWith_40 rfl 2 rfl ?_
          refine r_iload C (pc := 41) dX4_keepersWith_41 4 rfl ?_
          refine r_iconst C (pc := 43) dX4_keepersWith_43 ?_
          refine r_iload_n C (pc := 44) dX4_keepersWith_44 rfl 1 rfl ?_
          refine r_imul C (pc := 45) dX4_keepersWith_45 ?_
          refine r_ishl C (pc := 46) dX4_keepersWith_46 ?_
          refine r_ior C (pc := 47) dX4_keepersWith_47 ?_
          obtain ⟨r48, e48, h⟩ := wp_b1 h
          refine b_cSi C (pc := 48) dX4_keepersWith_48 (IH (xl g) (xG g) a_p1 a_p1_gaps c_p1_size c_p1_gaps (p2 + 1) (orI p3 (shlI v4_15 (3 * p2))) r48 e48) rfl gX4_keepersWith_X4_keepersWith ⟨rfl, rfl⟩ 3 hd_X4_keepersWith ⟨by simp [rm_X4_keepersWith, rm_X4_keepersWith]; try omega, by simp [rm_X4_keepersWith, rm_X4_keepersWith]; try omega⟩ rfl [0, 1] rfl (srt_nd 0 rfl) (ws' := w_X4_keepersWith (xG g) a_p1 a_p1_gaps c_p1_size c_p1_gaps) (Put.m rfl rfl rfl) rfl (rest := [.int (jz v3_15)]) rfl (Nat.le_of_ble_eq_true rfl) ⟨Nat.zero_le _, Nat.zero_le _⟩ ?_
          refine r_iadd C (pc := 51) dX4_keepersWith_51 ?_
          refine r_let h (fun x52 h => ?_)
          refine r_istore_n C (pc := 52) dX4_keepersWith_52 rfl (by decide) (L' := [(0, .ref a_p1), (1, .int (jz p2)), (2, .int (jz p3)), (3, .int (jz x52)), (4, .int (jz v4_15))]) rfl ?_
          exact hk53 x52 h
  · refine r_iconst C (pc := 8) dX4_keepersWith_8 ?_
    exact r_iret C (pc := 9) dX4_keepersWith_9 (hK 1 (wp_s h) rfl)
theorem c_X4_keepersWith (l : Launch) (G : gG) (dd : Nat) (a_p1 : Nat) (a_p1_gaps : Nat) (c_p1_size : Int) (c_p1_gaps : Nat → Int) (p2 : Int) (p3 : Int) (r : Int) (hf : f_X4_keepersWith dd p2 p3 c_p1_size c_p1_gaps = some r) : CTi l yX4_keepersWith wsX4_keepersWith (rm_X4_keepersWith dd) G (w_X4_keepersWith G a_p1 a_p1_gaps c_p1_size c_p1_gaps) [.ref a_p1, .int (jz p2), .int (jz p3)] (jz r) (w_X4_keepersWith G a_p1 a_p1_gaps c_p1_size c_p1_gaps) := by
  induction dd generalizing l G a_p1 a_p1_gaps c_p1_size c_p1_gaps p2 p3 r with
  | zero =>
    rw [f_X4_keepersWith] at hf
    cases hf
  | succ dd ih =>
    have IH : ∀ (l : Launch) (G : gG) (a_p1 : Nat) (a_p1_gaps : Nat) (c_p1_size : Int) (c_p1_gaps : Nat → Int) (p2 : Int) (p3 : Int) (r : Int), f_X4_keepersWith dd p2 p3 c_p1_size c_p1_gaps = some r → CTi l yX4_keepersWith wsX4_keepersWith (rm_X4_keepersWith dd) G (w_X4_keepersWith G a_p1 a_p1_gaps c_p1_size c_p1_gaps) [.ref a_p1, .int (jz p2), .int (jz p3)] (jz r) (w_X4_keepersWith G a_p1 a_p1_gaps c_p1_size c_p1_gaps) := fun l G a_p1 a_p1_gaps c_p1_size c_p1_gaps p2 p3 r hf => ih l G a_p1 a_p1_gaps c_p1_size c_p1_gaps p2 p3 r hf
    exact CTi_of (by decide) rfl rfl (Nat.le_of_ble_eq_true rfl) (fun g C hG hl hF => by
      subst hG
      subst hl
      exact k_X4_keepersWith IH C a_p1 a_p1_gaps c_p1_size c_p1_gaps p2 p3 (fun x => x = r) (fun r' e => by cases e; exact hF) ⟨_, hf, rfl⟩)

-- TightHulls$Table.keepers()I
def f_X4_keepers (c_this_size : Int) (c_this_gaps : Nat → Int) : Option Int := bd1 (f_X4_keepersWith 8 0 0 c_this_size c_this_gaps) (fun r3 => some r3)
abbrev rm_X4_keepers : Room := { frames := 11, cells := 0, slots := 0, locals := 264 }
abbrev w_X4_keepers (G : gG) (a_this : Nat) (a_this_gaps : Nat) (c_this_size : Int) (c_this_gaps : Nat → Int) : va_W := [(a_this, .inr (4, [.int (jz c_this_size), .ref a_this_gaps])), (a_this_gaps, aI G 25 c_this_gaps)]
theorem hd_X4_keepers : yX4_keepers.cls = RX4 ∧ yX4_keepers.cls ≠ "java/lang/invoke/MethodHandle" ∧ yX4_keepers.cls ≠ "java/lang/invoke/VarHandle" ∧ (parseMethodDescriptor yX4_keepers.desc).map (fun d => d.parameters.length) = some 0 := by decide +kernel
set_option maxRecDepth 100000 in
set_option maxHeartbeats 4000000 in
theorem k_X4_keepers {g : XC} (C : XOk g cX4_keepers RX4 wsX4_keepers rm_X4_keepers 1) (a_this : Nat) (a_this_gaps : Nat) (c_this_size : Int) (c_this_gaps : Nat → Int)  (K : Int → Prop) (hK : ∀ (r : Int), K r → (narrow .int (.int (jz r)) = .int (jz r) → FinI g 0 0 (w_X4_keepers (xG g) a_this a_this_gaps c_this_size c_this_gaps) (jz r))) (h : wp (f_X4_keepers c_this_size c_this_gaps) K) : WW g 0 0 (w_X4_keepers (xG g) a_this a_this_gaps c_this_size c_this_gaps) 0 [(0, .ref a_this)] [] := by
  unfold f_X4_keepers at h
  refine r_aload_n C (pc := 0) dX4_keepers_0 rfl 0 rfl ?_
  refine r_iconst C (pc := 1) dX4_keepers_1 ?_
  refine r_iconst C (pc := 2) dX4_keepers_2 ?_
  obtain ⟨r3, e3, h⟩ := wp_b1 h
  refine b_cSi C (pc := 3) dX4_keepers_3 (c_X4_keepersWith (xl g) (xG g) 8 a_this a_this_gaps c_this_size c_this_gaps 0 0 r3 e3) rfl gX4_keepers_X4_keepersWith ⟨rfl, rfl⟩ 3 hd_X4_keepersWith ⟨Nat.le_of_ble_eq_true rfl, Nat.le_of_ble_eq_true rfl⟩ rfl [0, 1] rfl (srt_nd 0 rfl) (ws' := w_X4_keepers (xG g) a_this a_this_gaps c_this_size c_this_gaps) (Put.m rfl rfl rfl) rfl (rest := []) rfl (Nat.le_of_ble_eq_true rfl) ⟨Nat.zero_le _, Nat.zero_le _⟩ ?_
  exact r_iret C (pc := 6) dX4_keepers_6 (hK r3 (wp_s h) rfl)
theorem c_X4_keepers (l : Launch) (G : gG) (a_this : Nat) (a_this_gaps : Nat) (c_this_size : Int) (c_this_gaps : Nat → Int) (r : Int) (hf : f_X4_keepers c_this_size c_this_gaps = some r) : CTi l yX4_keepers wsX4_keepers rm_X4_keepers G (w_X4_keepers G a_this a_this_gaps c_this_size c_this_gaps) [.ref a_this] (jz r) (w_X4_keepers G a_this a_this_gaps c_this_size c_this_gaps) := CTi_of (by decide) rfl rfl (Nat.le_of_ble_eq_true rfl) (fun g C hG hl hF => by
    subst hG
    subst hl
    exact k_X4_keepers C a_this a_this_gaps c_this_size c_this_gaps (fun x => x = r) (fun r' e => by cases e; exact hF) ⟨_, hf, rfl⟩)

-- TightHulls$Table.hangsWithAll(III)Z
def f_X4_hangsWithAll (p1 : Int) (p2 : Int) (p3 : Int) (c_this_size : Int) (c_this_gaps : Nat → Int) : Option Int := lv ((p3 + 1)) (fun x3 => lq1 (fun (n5 : Int → Option Int) (v4_5 : Int) => if ltI v4_5 c_this_size = true then (bd1 (f_X4_gap p1 p2 c_this_size c_this_gaps) (fun r17 => bd1 (f_X4_gap p3 v4_5 c_this_size c_this_gaps) (fun r24 => lv ((r17 + r24)) (fun x28 => bd1 (f_X4_gap p1 p3 c_this_size c_this_gaps) (fun r33 => bd1 (f_X4_gap p2 v4_5 c_this_size c_this_gaps) (fun r40 => lv ((r33 + r40)) (fun x44 => bd1 (f_X4_gap p1 v4_5 c_this_size c_this_gaps) (fun r50 => bd1 (f_X4_gap p2 p3 c_this_size c_this_gaps) (fun r56 => lv ((r50 + r56)) (fun x60 => jn (fun (s0_101 : Int) => if eqI s0_101 0 = true then (some 0) else (n5 (v4_5 + 1))) (fun (k101 : Int → Option Int) => if eqI x28 x44 = true then (if ltI x28 x60 = true then (k101 0) else (k101 1)) else (if eqI (maxI x28 x44) x60 = true then (k101 1) else (k101 0))))))))))))) else (some 1)) 300 x3)
abbrev rm_X4_hangsWithAll : Room := { frames := 1, cells := 0, slots := 0, locals := 60 }
abbrev w_X4_hangsWithAll (G : gG) (a_this : Nat) (a_this_gaps : Nat) (c_this_size : Int) (c_this_gaps : Nat → Int) : va_W := [(a_this, .inr (4, [.int (jz c_this_size), .ref a_this_gaps])), (a_this_gaps, aI G 25 c_this_gaps)]
theorem hd_X4_hangsWithAll : yX4_hangsWithAll.cls = RX4 ∧ yX4_hangsWithAll.cls ≠ "java/lang/invoke/MethodHandle" ∧ yX4_hangsWithAll.cls ≠ "java/lang/invoke/VarHandle" ∧ (parseMethodDescriptor yX4_hangsWithAll.desc).map (fun d => d.parameters.length) = some 3 := by decide +kernel
theorem in_X4_hangsWithAll_X4 : ∀ w ∈ u_ws RX4 TX4 2, w ∈ wsX4_hangsWithAll := fun w h => List.mem_cons_of_mem _ (List.mem_append_right _ (h))
theorem gf_X4_hangsWithAll_28 : GF wsX4_hangsWithAll RX4 28 4 0 := ⟨RX4, TX4, 2, rfl, in_X4_hangsWithAll_X4, by decide, List.mem_of_getElem? (i := 1) rfl⟩
theorem mm_X4_hangsWithAll_2 : Cond.methodLink RX4 25 Lib.Math.max.name ∈ wsX4_hangsWithAll := List.mem_of_getElem? (i := 2) rfl
theorem mm_X4_hangsWithAll_3 : Cond.static Lib.Math.max.name ∈ wsX4_hangsWithAll := List.mem_of_getElem? (i := 3) rfl
theorem mm_X4_hangsWithAll_4 : Cond.initialized "java/lang/Math" ∈ wsX4_hangsWithAll := List.mem_of_getElem? (i := 4) rfl
theorem mm_X4_hangsWithAll_5 : Cond.code Lib.Math.max.name Lib.Math.max.code 2 (some .int) ∈ wsX4_hangsWithAll := List.mem_of_getElem? (i := 5) rfl
set_option maxRecDepth 100000 in
set_option maxHeartbeats 4000000 in
theorem k_X4_hangsWithAll {g : XC} (C : XOk g cX4_hangsWithAll RX4 wsX4_hangsWithAll rm_X4_hangsWithAll 9) (a_this : Nat) (a_this_gaps : Nat) (c_this_size : Int) (c_this_gaps : Nat → Int) (p1 : Int) (p2 : Int) (p3 : Int) (K : Int → Prop) (hK : ∀ (r : Int), K r → (narrow .boolean (.int (jz r)) = .int (jz r) → FinI g 0 0 (w_X4_hangsWithAll (xG g) a_this a_this_gaps c_this_size c_this_gaps) (jz r))) (h : wp (f_X4_hangsWithAll p1 p2 p3 c_this_size c_this_gaps) K) : WW g 0 0 (w_X4_hangsWithAll (xG g) a_this a_this_gaps c_this_size c_this_gaps) 0 [(0, .ref a_this), (1, .int (jz p1)), (2, .int (jz p2)), (3, .int (jz p3))] [] := by
  unfold f_X4_hangsWithAll at h
  refine r_iload_n C (pc := 0) dX4_hangsWithAll_0 rfl 3 rfl ?_
  refine r_iconst C (pc := 1) dX4_hangsWithAll_1 ?_
  refine r_iadd C (pc := 2) dX4_hangsWithAll_2 ?_
  refine r_let h (fun x3 h => ?_)
  refine r_istore C (pc := 3) dX4_hangsWithAll_3 (by decide) (L' := [(0, .ref a_this), (1, .int (jz p1)), (2, .int (jz p2)), (3, .int (jz p3)), (4, .int (jz x3))]) rfl ?_
  refine lq1_e (fun (v4_5 : Int) => WW g 0 0 (w_X4_hangsWithAll (xG g) a_this a_this_gaps c_this_size c_this_gaps) 5 [(0, .ref a_this), (1, .int (jz p1)), (2, .int (jz p2)), (3, .int (jz p3)), (4, .int (jz v4_5))] []) h (fun n5 hn5 v4_5 h => ?_)
  refine r_iload C (pc := 5) dX4_hangsWithAll_5 4 rfl ?_
  refine r_aload_n C (pc := 7) dX4_hangsWithAll_7 rfl 0 rfl ?_
  refine r_get C (pc := 8) dX4_hangsWithAll_8 gf_X4_hangsWithAll_28 0 rfl rfl ?_
  refine r_icmp_ge C (pc := 11) 116 dX4_hangsWithAll_11 rfl h (fun c11 h => ?_) (fun c11 h => ?_)
  · refine r_iconst C (pc := 116) dX4_hangsWithAll_116 ?_
    exact r_iret C (pc := 117) dX4_hangsWithAll_117 (hK 1 (wp_s h) (nB rfl).1)
  · refine r_aload_n C (pc := 14) dX4_hangsWithAll_14 rfl 0 rfl ?_
    refine r_iload_n C (pc := 15) dX4_hangsWithAll_15 rfl 1 rfl ?_
    refine r_iload_n C (pc := 16) dX4_hangsWithAll_16 rfl 2 rfl ?_
    obtain ⟨r17, e17, h⟩ := wp_b1 h
    refine b_cVi C (pc := 17) dX4_hangsWithAll_17 (c_X4_gap (xl g) (xG g) a_this a_this_gaps c_this_size c_this_gaps p1 p2 r17 e17) rfl gX4_hangsWithAll_X4_gap ⟨rfl, rfl⟩ 2 hd_X4_gap ⟨Nat.le_of_ble_eq_true rfl, Nat.le_of_ble_eq_true rfl⟩ rfl 0 rfl rfl rfl [0, 1] rfl (srt_nd 0 rfl) (ws' := w_X4_hangsWithAll (xG g) a_this a_this_gaps c_this_size c_this_gaps) (Put.m rfl rfl rfl) rfl (rest := []) rfl (Nat.le_of_ble_eq_true rfl) ⟨Nat.zero_le _, Nat.zero_le _⟩ ?_
    refine r_aload_n C (pc := 20) dX4_hangsWithAll_20 rfl 0 rfl ?_
    refine r_iload_n C (pc := 21) dX4_hangsWithAll_21 rfl 3 rfl ?_
    refine r_iload C (pc := 22) dX4_hangsWithAll_22 4 rfl ?_
    obtain ⟨r24, e24, h⟩ := wp_b1 h
    refine b_cVi C (pc := 24) dX4_hangsWithAll_24 (c_X4_gap (xl g) (xG g) a_this a_this_gaps c_this_size c_this_gaps p3 v4_5 r24 e24) rfl gX4_hangsWithAll_X4_gap ⟨rfl, rfl⟩ 2 hd_X4_gap ⟨Nat.le_of_ble_eq_true rfl, Nat.le_of_ble_eq_true rfl⟩ rfl 0 rfl rfl rfl [0, 1] rfl (srt_nd 0 rfl) (ws' := w_X4_hangsWithAll (xG g) a_this a_this_gaps c_this_size c_this_gaps) (Put.m rfl rfl rfl) rfl (rest := [.int (jz r17)]) rfl (Nat.le_of_ble_eq_true rfl) ⟨Nat.zero_le _, Nat.zero_le _⟩ ?_
    refine r_iadd C (pc := 27) dX4_hangsWithAll_27 ?_
    refine r_let h (fun x28 h => ?_)
    refine r_istore C (pc := 28) dX4_hangsWithAll_28 (by decide) (L' := [(0, .ref a_this), (1, .int (jz p1)), (2, .int (jz p2)), (3, .int (jz p3)), (4, .int (jz v4_5)), (5, .int (jz x28))]) rfl ?_
    refine r_aload_n C (pc := 30) dX4_hangsWithAll_30 rfl 0 rfl ?_
    refine r_iload_n C (pc := 31) dX4_hangsWithAll_31 rfl 1 rfl ?_
    refine r_iload_n C (pc := 32) dX4_hangsWithAll_32 rfl 3 rfl ?_
    obtain ⟨r33, e33, h⟩ := wp_b1 h
    refine b_cVi C (pc := 33) dX4_hangsWithAll_33 (c_X4_gap (xl g) (xG g) a_this a_this_gaps c_this_size c_this_gaps p1 p3 r33 e33) rfl gX4_hangsWithAll_X4_gap ⟨rfl, rfl⟩ 2 hd_X4_gap ⟨Nat.le_of_ble_eq_true rfl, Nat.le_of_ble_eq_true rfl⟩ rfl 0 rfl rfl rfl [0, 1] rfl (srt_nd 0 rfl) (ws' := w_X4_hangsWithAll (xG g) a_this a_this_gaps c_this_size c_this_gaps) (Put.m rfl rfl rfl) rfl (rest := []) rfl (Nat.le_of_ble_eq_true rfl) ⟨Nat.zero_le _, Nat.zero_le _⟩ ?_
    refine r_aload_n C (pc := 36) dX4_hangsWithAll_36 rfl 0 rfl ?_
    refine r_iload_n C (pc := 37) dX4_hangsWithAll_37 rfl 2 rfl ?_
    refine r_iload C (pc := 38) dX4_hangsWithAll_38 4 rfl ?_
    obtain ⟨r40, e40, h⟩ := wp_b1 h
    refine b_cVi C (pc := 40) dX4_hangsWithAll_40 (c_X4_gap (xl g) (xG g) a_this a_this_gaps c_this_size c_this_gaps p2 v4_5 r40 e40) rfl gX4_hangsWithAll_X4_gap ⟨rfl, rfl⟩ 2 hd_X4_gap ⟨Nat.le_of_ble_eq_true rfl, Nat.le_of_ble_eq_true rfl⟩ rfl 0 rfl rfl rfl [0, 1] rfl (srt_nd 0 rfl) (ws' := w_X4_hangsWithAll (xG g) a_this a_this_gaps c_this_size c_this_gaps) (Put.m rfl rfl rfl) rfl (rest := [.int (jz r33)]) rfl (Nat.le_of_ble_eq_true rfl) ⟨Nat.zero_le _, Nat.zero_le _⟩ ?_
    refine r_iadd C (pc := 43) dX4_hangsWithAll_43 ?_
    refine r_let h (fun x44 h => ?_)
    refine r_istore C (pc := 44) dX4_hangsWithAll_44 (by decide) (L' := [(0, .ref a_this), (1, .int (jz p1)), (2, .int (jz p2)), (3, .int (jz p3)), (4, .int (jz v4_5)), (5, .int (jz x28)), (6, .int (jz x44))]) rfl ?_
    refine r_aload_n C (pc := 46) dX4_hangsWithAll_46 rfl 0 rfl ?_
    refine r_iload_n C (pc := 47) dX4_hangsWithAll_47 rfl 1 rfl ?_
    refine r_iload C (pc := 48) dX4_hangsWithAll_48 4 rfl ?_
    obtain ⟨r50, e50, h⟩ := wp_b1 h
    refine b_cVi C (pc := 50) dX4_hangsWithAll_50 (c_X4_gap (xl g) (xG g) a_this a_this_gaps c_this_size c_this_gaps p1 v4_5 r50 e50) rfl gX4_hangsWithAll_X4_gap ⟨rfl, rfl⟩ 2 hd_X4_gap ⟨Nat.le_of_ble_eq_true rfl, Nat.le_of_ble_eq_true rfl⟩ rfl 0 rfl rfl rfl [0, 1] rfl (srt_nd 0 rfl) (ws' := w_X4_hangsWithAll (xG g) a_this a_this_gaps c_this_size c_this_gaps) (Put.m rfl rfl rfl) rfl (rest := []) rfl (Nat.le_of_ble_eq_true rfl) ⟨Nat.zero_le _, Nat.zero_le _⟩ ?_
    refine r_aload_n C (pc := 53) dX4_hangsWithAll_53 rfl 0 rfl ?_
    refine r_iload_n C (pc := 54) dX4_hangsWithAll_54 rfl 2 rfl ?_
    refine r_iload_n C (pc := 55) dX4_hangsWithAll_55 rfl 3 rfl ?_
    obtain ⟨r56, e56, h⟩ := wp_b1 h
    refine b_cVi C (pc := 56) dX4_hangsWithAll_56 (c_X4_gap (xl g) (xG g) a_this a_this_gaps c_this_size c_this_gaps p2 p3 r56 e56) rfl gX4_hangsWithAll_X4_gap ⟨rfl, rfl⟩ 2 hd_X4_gap ⟨Nat.le_of_ble_eq_true rfl, Nat.le_of_ble_eq_true rfl⟩ rfl 0 rfl rfl rfl [0, 1] rfl (srt_nd 0 rfl) (ws' := w_X4_hangsWithAll (xG g) a_this a_this_gaps c_this_size c_this_gaps) (Put.m rfl rfl rfl) rfl (rest := [.int (jz r50)]) rfl (Nat.le_of_ble_eq_true rfl) ⟨Nat.zero_le _, Nat.zero_le _⟩ ?_
    refine r_iadd C (pc := 59) dX4_hangsWithAll_59 ?_
    refine r_let h (fun x60 h => ?_)
    refine r_istore C (pc := 60) dX4_hangsWithAll_60 (by decide) (L' := [(0, .ref a_this), (1, .int (jz p1)), (2, .int (jz p2)), (3, .int (jz p3)), (4, .int (jz v4_5)), (5, .int (jz x28)), (6, .int (jz x44)), (7, .int (jz x60))]) rfl ?_
    refine r_iload C (pc := 62) dX4_hangsWithAll_62 5 rfl ?_
    refine r_iload C (pc := 64) dX4_hangsWithAll_64 6 rfl ?_
    refine jn_e (fun (k101 : Int → Option Int) => ∀ (s0_101 : Int), wp (k101 s0_101) K → WW g 0 0 (w_X4_hangsWithAll (xG g) a_this a_this_gaps c_this_size c_this_gaps) 101 [(0, .ref a_this), (1, .int (jz p1)), (2, .int (jz p2)), (3, .int (jz p3)), (4, .int (jz v4_5))] [.int (jz s0_101)]) h (fun s0_101 h => ?_) (fun k101 hk101 h => ?_)
    · refine r_istore C (pc := 101) dX4_hangsWithAll_101 (by decide) (L' := [(0, .ref a_this), (1, .int (jz p1)), (2, .int (jz p2)), (3, .int (jz p3)), (4, .int (jz v4_5)), (8, .int (jz s0_101))]) rfl ?_
      refine r_iload C (pc := 103) dX4_hangsWithAll_103 5 rfl ?_
      refine r_if_ne C (pc := 105) 110 dX4_hangsWithAll_105 rfl h (fun c105 h => ?_) (fun c105 h => ?_)
      · refine r_iinc C (pc := 110) dX4_hangsWithAll_110 4 rfl (by decide) (L' := [(0, .ref a_this), (1, .int (jz p1)), (2, .int (jz p2)), (3, .int (jz p3)), (4, .int (jz (v4_5 + 1))), (8, .int (jz s0_101))]) rfl ?_
        refine r_goto C (pc := 113) 5 dX4_hangsWithAll_113 rfl ?_
        refine r_sub [0, 1, 2, 3, 4] rfl ?_
        exact hn5 (v4_5 + 1) h
      · refine r_iconst C (pc := 108) dX4_hangsWithAll_108 ?_
        exact r_iret C (pc := 109) dX4_hangsWithAll_109 (hK 0 (wp_s h) (nB rfl).1)
    · refine r_icmp_ne C (pc := 66) 84 dX4_hangsWithAll_66 rfl h (fun c66 h => ?_) (fun c66 h => ?_)
      · refine r_iload C (pc := 84) dX4_hangsWithAll_84 5 rfl ?_
        refine r_iload C (pc := 86) dX4_hangsWithAll_86 6 rfl ?_
        refine r_mmax C (pc := 88) dX4_hangsWithAll_88 mm_X4_hangsWithAll_2 mm_X4_hangsWithAll_3 mm_X4_hangsWithAll_4 mm_X4_hangsWithAll_5 (Nat.le_of_ble_eq_true rfl) (Nat.le_of_ble_eq_true rfl) ⟨Nat.zero_le _, Nat.zero_le _⟩ ?_
        refine r_iload C (pc := 91) dX4_hangsWithAll_91 7 rfl ?_
        refine r_icmp_ne C (pc := 93) 100 dX4_hangsWithAll_93 rfl h (fun c93 h => ?_) (fun c93 h => ?_)
        · refine r_iconst C (pc := 100) dX4_hangsWithAll_100 ?_
          refine r_sub [0, 1, 2, 3, 4] rfl ?_
          exact hk101 0 h
        · refine r_iconst C (pc := 96) dX4_hangsWithAll_96 ?_
          refine r_goto C (pc := 97) 101 dX4_hangsWithAll_97 rfl ?_
          refine r_sub [0, 1, 2, 3, 4] rfl ?_
          exact hk101 1 h
      · refine r_iload C (pc := 69) dX4_hangsWithAll_69 7 rfl ?_
        refine r_iload C (pc := 71) dX4_hangsWithAll_71 5 rfl ?_
        refine r_icmp_gt C (pc := 73) 80 dX4_hangsWithAll_73 rfl h (fun c73 h => ?_) (fun c73 h => ?_)
        · refine r_iconst C (pc := 80) dX4_hangsWithAll_80 ?_
          refine r_goto C (pc := 81) 101 dX4_hangsWithAll_81 rfl ?_
          refine r_sub [0, 1, 2, 3, 4] rfl ?_
          exact hk101 0 h
        · refine r_iconst C (pc := 76) dX4_hangsWithAll_76 ?_
          refine r_goto C (pc := 77) 101 dX4_hangsWithAll_77 rfl ?_
          refine r_sub [0, 1, 2, 3, 4] rfl ?_
          exact hk101 1 h
theorem c_X4_hangsWithAll (l : Launch) (G : gG) (a_this : Nat) (a_this_gaps : Nat) (c_this_size : Int) (c_this_gaps : Nat → Int) (p1 : Int) (p2 : Int) (p3 : Int) (r : Int) (hf : f_X4_hangsWithAll p1 p2 p3 c_this_size c_this_gaps = some r) : CTi l yX4_hangsWithAll wsX4_hangsWithAll rm_X4_hangsWithAll G (w_X4_hangsWithAll G a_this a_this_gaps c_this_size c_this_gaps) [.ref a_this, .int (jz p1), .int (jz p2), .int (jz p3)] (jz r) (w_X4_hangsWithAll G a_this a_this_gaps c_this_size c_this_gaps) := CTi_of (by decide) rfl rfl (Nat.le_of_ble_eq_true rfl) (fun g C hG hl hF => by
    subst hG
    subst hl
    exact k_X4_hangsWithAll C a_this a_this_gaps c_this_size c_this_gaps p1 p2 p3 (fun x => x = r) (fun r' e => by cases e; exact hF) ⟨_, hf, rfl⟩)

-- TightHulls$Table.isTree()Z
def f_X4_isTree (c_this_size : Int) (c_this_gaps : Nat → Int) : Option Int := bd1 (f_X4_isTable c_this_size c_this_gaps) (fun r1 => if eqI r1 0 = true then (some 0) else (lq1 (fun (n11 : Int → Option Int) (v1_11 : Int) => if ltI v1_11 c_this_size = true then (lv ((v1_11 + 1)) (fun x22 => lq1 (fun (n23 : Int → Option Int) (v2_23 : Int) => if ltI v2_23 c_this_size = true then (lv ((v2_23 + 1)) (fun x34 => lq1 (fun (n35 : Int → Option Int) (v3_35 : Int) => if ltI v3_35 c_this_size = true then (bd1 (f_X4_hangsWithAll v1_11 v2_23 v3_35 c_this_size c_this_gaps) (fun r47 => if eqI r47 0 = true then (some 0) else (n35 (v3_35 + 1)))) else (n23 (v2_23 + 1))) 300 x34)) else (n11 (v1_11 + 1))) 300 x22)) else (some 1)) 300 0))
abbrev rm_X4_isTree : Room := { frames := 3, cells := 0, slots := 0, locals := 88 }
abbrev w_X4_isTree (G : gG) (a_this : Nat) (a_this_gaps : Nat) (c_this_size : Int) (c_this_gaps : Nat → Int) : va_W := [(a_this, .inr (4, [.int (jz c_this_size), .ref a_this_gaps])), (a_this_gaps, aI G 25 c_this_gaps)]
theorem hd_X4_isTree : yX4_isTree.cls = RX4 ∧ yX4_isTree.cls ≠ "java/lang/invoke/MethodHandle" ∧ yX4_isTree.cls ≠ "java/lang/invoke/VarHandle" ∧ (parseMethodDescriptor yX4_isTree.desc).map (fun d => d.parameters.length) = some 0 := by decide +kernel
theorem in_X4_isTree_X4 : ∀ w ∈ u_ws RX4 TX4 2, w ∈ wsX4_isTree := fun w h => List.mem_cons_of_mem _ (List.mem_append_right _ (h))
theorem gf_X4_isTree_28 : GF wsX4_isTree RX4 28 4 0 := ⟨RX4, TX4, 2, rfl, in_X4_isTree_X4, by decide, List.mem_of_getElem? (i := 1) rfl⟩
set_option maxRecDepth 100000 in
set_option maxHeartbeats 4000000 in
theorem k_X4_isTree {g : XC} (C : XOk g cX4_isTree RX4 wsX4_isTree rm_X4_isTree 4) (a_this : Nat) (a_this_gaps : Nat) (c_this_size : Int) (c_this_gaps : Nat → Int)  (K : Int → Prop) (hK : ∀ (r : Int), K r → (narrow .boolean (.int (jz r)) = .int (jz r) → FinI g 0 0 (w_X4_isTree (xG g) a_this a_this_gaps c_this_size c_this_gaps) (jz r))) (h : wp (f_X4_isTree c_this_size c_this_gaps) K) : WW g 0 0 (w_X4_isTree (xG g) a_this a_this_gaps c_this_size c_this_gaps) 0 [(0, .ref a_this)] [] := by
  unfold f_X4_isTree at h
  refine r_aload_n C (pc := 0) dX4_isTree_0 rfl 0 rfl ?_
  obtain ⟨r1, e1, h⟩ := wp_b1 h
  refine b_cVi C (pc := 1) dX4_isTree_1 (c_X4_isTable (xl g) (xG g) a_this a_this_gaps c_this_size c_this_gaps r1 e1) rfl gX4_isTree_X4_isTable ⟨rfl, rfl⟩ 0 hd_X4_isTable ⟨Nat.le_of_ble_eq_true rfl, Nat.le_of_ble_eq_true rfl⟩ rfl 0 rfl rfl rfl [0, 1] rfl (srt_nd 0 rfl) (ws' := w_X4_isTree (xG g) a_this a_this_gaps c_this_size c_this_gaps) (Put.m rfl rfl rfl) rfl (rest := []) rfl (Nat.le_of_ble_eq_true rfl) ⟨Nat.zero_le _, Nat.zero_le _⟩ ?_
  refine r_if_ne C (pc := 4) 9 dX4_isTree_4 rfl h (fun c4 h => ?_) (fun c4 h => ?_)
  · refine r_iconst C (pc := 9) dX4_isTree_9 ?_
    refine r_istore_n C (pc := 10) dX4_isTree_10 rfl (by decide) (L' := [(0, .ref a_this), (1, .int (jz 0))]) rfl ?_
    refine lq1_e (fun (v1_11 : Int) => WW g 0 0 (w_X4_isTree (xG g) a_this a_this_gaps c_this_size c_this_gaps) 11 [(0, .ref a_this), (1, .int (jz v1_11))] []) h (fun n11 hn11 v1_11 h => ?_)
    refine r_iload_n C (pc := 11) dX4_isTree_11 rfl 1 rfl ?_
    refine r_aload_n C (pc := 12) dX4_isTree_12 rfl 0 rfl ?_
    refine r_get C (pc := 13) dX4_isTree_13 gf_X4_isTree_28 0 rfl rfl ?_
    refine r_icmp_ge C (pc := 16) 73 dX4_isTree_16 rfl h (fun c16 h => ?_) (fun c16 h => ?_)
    · refine r_iconst C (pc := 73) dX4_isTree_73 ?_
      exact r_iret C (pc := 74) dX4_isTree_74 (hK 1 (wp_s h) (nB rfl).1)
    · refine r_iload_n C (pc := 19) dX4_isTree_19 rfl 1 rfl ?_
      refine r_iconst C (pc := 20) dX4_isTree_20 ?_
      refine r_iadd C (pc := 21) dX4_isTree_21 ?_
      refine r_let h (fun x22 h => ?_)
      refine r_istore_n C (pc := 22) dX4_isTree_22 rfl (by decide) (L' := [(0, .ref a_this), (1, .int (jz v1_11)), (2, .int (jz x22))]) rfl ?_
      refine lq1_e (fun (v2_23 : Int) => WW g 0 0 (w_X4_isTree (xG g) a_this a_this_gaps c_this_size c_this_gaps) 23 [(0, .ref a_this), (1, .int (jz v1_11)), (2, .int (jz v2_23))] []) h (fun n23 hn23 v2_23 h => ?_)
      refine r_iload_n C (pc := 23) dX4_isTree_23 rfl 2 rfl ?_
      refine r_aload_n C (pc := 24) dX4_isTree_24 rfl 0 rfl ?_
      refine r_get C (pc := 25) dX4_isTree_25 gf_X4_isTree_28 0 rfl rfl ?_
      refine r_icmp_ge C (pc := 28) 67 dX4_isTree_28 rfl h (fun c28 h => ?_) (fun c28 h => ?_)
      · refine r_iinc C (pc := 67) dX4_isTree_67 1 rfl (by decide) (L' := [(0, .ref a_this), (1, .int (jz (v1_11 + 1))), (2, .int (jz v2_23))]) rfl ?_
        refine r_goto C (pc := 70) 11 dX4_isTree_70 rfl ?_
        refine r_sub [0, 1] rfl ?_
        exact hn11 (v1_11 + 1) h
      · refine r_iload_n C (pc := 31) dX4_isTree_31 rfl 2 rfl ?_
        refine r_iconst C (pc := 32) dX4_isTree_32 ?_
        refine r_iadd C (pc := 33) dX4_isTree_33 ?_
        refine r_let h (fun x34 h => ?_)
        refine r_istore_n C (pc := 34) dX4_isTree_34 rfl (by decide) (L' := [(0, .ref a_this), (1, .int (jz v1_11)), (2, .int (jz v2_23)), (3, .int (jz x34))]) rfl ?_
        refine lq1_e (fun (v3_35 : Int) => WW g 0 0 (w_X4_isTree (xG g) a_this a_this_gaps c_this_size c_this_gaps) 35 [(0, .ref a_this), (1, .int (jz v1_11)), (2, .int (jz v2_23)), (3, .int (jz v3_35))] []) h (fun n35 hn35 v3_35 h => ?_)
        refine r_iload_n C (pc := 35) dX4_isTree_35 rfl 3 rfl ?_
        refine r_aload_n C (pc := 36) dX4_isTree_36 rfl 0 rfl ?_
        refine r_get C (pc := 37) dX4_isTree_37 gf_X4_isTree_28 0 rfl rfl ?_
        refine r_icmp_ge C (pc := 40) 61 dX4_isTree_40 rfl h (fun c40 h => ?_) (fun c40 h => ?_)
        · refine r_iinc C (pc := 61) dX4_isTree_61 2 rfl (by decide) (L' := [(0, .ref a_this), (1, .int (jz v1_11)), (2, .int (jz (v2_23 + 1))), (3, .int (jz v3_35))]) rfl ?_
          refine r_goto C (pc := 64) 23 dX4_isTree_64 rfl ?_
          refine r_sub [0, 1, 2] rfl ?_
          exact hn23 (v2_23 + 1) h
        · refine r_aload_n C (pc := 43) dX4_isTree_43 rfl 0 rfl ?_
          refine r_iload_n C (pc := 44) dX4_isTree_44 rfl 1 rfl ?_
          refine r_iload_n C (pc := 45) dX4_isTree_45 rfl 2 rfl ?_
          refine r_iload_n C (pc := 46) dX4_isTree_46 rfl 3 rfl ?_
          obtain ⟨r47, e47, h⟩ := wp_b1 h
          refine b_cVi C (pc := 47) dX4_isTree_47 (c_X4_hangsWithAll (xl g) (xG g) a_this a_this_gaps c_this_size c_this_gaps v1_11 v2_23 v3_35 r47 e47) rfl gX4_isTree_X4_hangsWithAll ⟨rfl, rfl⟩ 3 hd_X4_hangsWithAll ⟨Nat.le_of_ble_eq_true rfl, Nat.le_of_ble_eq_true rfl⟩ rfl 0 rfl rfl rfl [0, 1] rfl (srt_nd 0 rfl) (ws' := w_X4_isTree (xG g) a_this a_this_gaps c_this_size c_this_gaps) (Put.m rfl rfl rfl) rfl (rest := []) rfl (Nat.le_of_ble_eq_true rfl) ⟨Nat.zero_le _, Nat.zero_le _⟩ ?_
          refine r_if_ne C (pc := 50) 55 dX4_isTree_50 rfl h (fun c50 h => ?_) (fun c50 h => ?_)
          · refine r_iinc C (pc := 55) dX4_isTree_55 3 rfl (by decide) (L' := [(0, .ref a_this), (1, .int (jz v1_11)), (2, .int (jz v2_23)), (3, .int (jz (v3_35 + 1)))]) rfl ?_
            refine r_goto C (pc := 58) 35 dX4_isTree_58 rfl ?_
            exact hn35 (v3_35 + 1) h
          · refine r_iconst C (pc := 53) dX4_isTree_53 ?_
            exact r_iret C (pc := 54) dX4_isTree_54 (hK 0 (wp_s h) (nB rfl).1)
  · refine r_iconst C (pc := 7) dX4_isTree_7 ?_
    exact r_iret C (pc := 8) dX4_isTree_8 (hK 0 (wp_s h) (nB rfl).1)
theorem c_X4_isTree (l : Launch) (G : gG) (a_this : Nat) (a_this_gaps : Nat) (c_this_size : Int) (c_this_gaps : Nat → Int) (r : Int) (hf : f_X4_isTree c_this_size c_this_gaps = some r) : CTi l yX4_isTree wsX4_isTree rm_X4_isTree G (w_X4_isTree G a_this a_this_gaps c_this_size c_this_gaps) [.ref a_this] (jz r) (w_X4_isTree G a_this a_this_gaps c_this_size c_this_gaps) := CTi_of (by decide) rfl rfl (Nat.le_of_ble_eq_true rfl) (fun g C hG hl hF => by
    subst hG
    subst hl
    exact k_X4_isTree C a_this a_this_gaps c_this_size c_this_gaps (fun x => x = r) (fun r' e => by cases e; exact hF) ⟨_, hf, rfl⟩)
