-- TightHulls$Table.has(I)Z
def f_X4_has (p1 : Int) (c_this_size : Int) : Option Int := jn (fun (s0_17 : Int) => grd (isB s0_17) (some s0_17)) (fun (k17 : Int → Option Int) => jn (k17 0) (fun (k16 : Option Int) => if ltI p1 0 = true then k16 else (if ltI p1 c_this_size = true then (k17 1) else k16)))
abbrev rm_X4_has : Room := { frames := 0, cells := 0, slots := 0, locals := 0 }
abbrev w_X4_has (G : gG) (a_this : Nat) (a_this_gaps : Nat) (c_this_size : Int) : va_W := [(a_this, .inr (4, [.int (jz c_this_size), .ref a_this_gaps]))]
theorem hd_X4_has : yX4_has.cls = RX4 ∧ yX4_has.cls ≠ "java/lang/invoke/MethodHandle" ∧ yX4_has.cls ≠ "java/lang/invoke/VarHandle" ∧ (parseMethodDescriptor yX4_has.desc).map (fun d => d.parameters.length) = some 1 := by decide +kernel
theorem in_X4_has_X4 : ∀ w ∈ u_ws RX4 TX4 2, w ∈ wsX4_has := fun w h => List.mem_cons_of_mem _ (List.mem_append_right _ (h))
theorem gf_X4_has_28 : GF wsX4_has RX4 28 4 0 := ⟨RX4, TX4, 2, rfl, in_X4_has_X4, by decide, List.mem_of_getElem? (i := 1) rfl⟩
set_option maxRecDepth 100000 in
set_option maxHeartbeats 4000000 in
theorem k_X4_has {g : XC} (C : XOk g cX4_has RX4 wsX4_has rm_X4_has 2) (a_this : Nat) (a_this_gaps : Nat) (c_this_size : Int) (p1 : Int) (K : Int → Prop) (hK : ∀ (r : Int), K r → (narrow .boolean (.int (jz r)) = .int (jz r) → FinI g 0 0 (w_X4_has (xG g) a_this a_this_gaps c_this_size) (jz r))) (h : wp (f_X4_has p1 c_this_size) K) : WW g 0 0 (w_X4_has (xG g) a_this a_this_gaps c_this_size) 0 [(0, .ref a_this), (1, .int (jz p1))] [] := by
  unfold f_X4_has at h
  refine r_iload_n C (pc := 0) dX4_has_0 rfl 1 rfl ?_
  refine jn_e (fun (k17 : Int → Option Int) => ∀ (s0_17 : Int), wp (k17 s0_17) K → WW g 0 0 (w_X4_has (xG g) a_this a_this_gaps c_this_size) 17 [] [.int (jz s0_17)]) h (fun s0_17 h => ?_) (fun k17 hk17 h => ?_)
  · exact r_iret C (pc := 17) dX4_has_17 (hK s0_17 (wp_s (wp_g h).2) (nB (wp_g h).1).1)
  · refine jn_e (fun (k16 : Option Int) => wp (k16) K → WW g 0 0 (w_X4_has (xG g) a_this a_this_gaps c_this_size) 16 [] []) h (fun h => ?_) (fun k16 hk16 h => ?_)
    · refine r_iconst C (pc := 16) dX4_has_16 ?_
      exact hk17 0 h
    · refine r_if_lt C (pc := 1) 16 dX4_has_1 rfl h (fun c1 h => ?_) (fun c1 h => ?_)
      · refine r_sub [] rfl ?_
        exact hk16 h
      · refine r_iload_n C (pc := 4) dX4_has_4 rfl 1 rfl ?_
        refine r_aload_n C (pc := 5) dX4_has_5 rfl 0 rfl ?_
        refine r_get C (pc := 6) dX4_has_6 gf_X4_has_28 0 rfl rfl ?_
        refine r_icmp_ge C (pc := 9) 16 dX4_has_9 rfl h (fun c9 h => ?_) (fun c9 h => ?_)
        · refine r_sub [] rfl ?_
          exact hk16 h
        · refine r_iconst C (pc := 12) dX4_has_12 ?_
          refine r_goto C (pc := 13) 17 dX4_has_13 rfl ?_
          refine r_sub [] rfl ?_
          exact hk17 1 h
theorem c_X4_has (l : Launch) (G : gG) (a_this : Nat) (a_this_gaps : Nat) (c_this_size : Int) (p1 : Int) (r : Int) (hf : f_X4_has p1 c_this_size = some r) : CTi l yX4_has wsX4_has rm_X4_has G (w_X4_has G a_this a_this_gaps c_this_size) [.ref a_this, .int (jz p1)] (jz r) (w_X4_has G a_this a_this_gaps c_this_size) := CTi_of (by decide) rfl rfl (Nat.le_of_ble_eq_true rfl) (fun g C hG hl hF => by
    subst hG
    subst hl
    exact k_X4_has C a_this a_this_gaps c_this_size p1 (fun x => x = r) (fun r' e => by cases e; exact hF) ⟨_, hf, rfl⟩)

-- TightHulls$Table.areTwo(II)Z
def f_X4_areTwo (p1 : Int) (p2 : Int) (c_this_size : Int) : Option Int := jn (fun (s0_34 : Int) => grd (isB s0_34) (some s0_34)) (fun (k34 : Int → Option Int) => jn (k34 0) (fun (k33 : Option Int) => if ltI p1 0 = true then k33 else (if ltI p1 c_this_size = true then (if ltI p2 0 = true then k33 else (if ltI p2 c_this_size = true then (if eqI p1 p2 = true then k33 else (k34 1)) else k33)) else k33)))
abbrev rm_X4_areTwo : Room := { frames := 0, cells := 0, slots := 0, locals := 0 }
abbrev w_X4_areTwo (G : gG) (a_this : Nat) (a_this_gaps : Nat) (c_this_size : Int) : va_W := [(a_this, .inr (4, [.int (jz c_this_size), .ref a_this_gaps]))]
theorem hd_X4_areTwo : yX4_areTwo.cls = RX4 ∧ yX4_areTwo.cls ≠ "java/lang/invoke/MethodHandle" ∧ yX4_areTwo.cls ≠ "java/lang/invoke/VarHandle" ∧ (parseMethodDescriptor yX4_areTwo.desc).map (fun d => d.parameters.length) = some 2 := by decide +kernel
theorem in_X4_areTwo_X4 : ∀ w ∈ u_ws RX4 TX4 2, w ∈ wsX4_areTwo := fun w h => List.mem_cons_of_mem _ (List.mem_append_right _ (h))
theorem gf_X4_areTwo_28 : GF wsX4_areTwo RX4 28 4 0 := ⟨RX4, TX4, 2, rfl, in_X4_areTwo_X4, by decide, List.mem_of_getElem? (i := 1) rfl⟩
set_option maxRecDepth 100000 in
set_option maxHeartbeats 4000000 in
theorem k_X4_areTwo {g : XC} (C : XOk g cX4_areTwo RX4 wsX4_areTwo rm_X4_areTwo 3) (a_this : Nat) (a_this_gaps : Nat) (c_this_size : Int) (p1 : Int) (p2 : Int) (K : Int → Prop) (hK : ∀ (r : Int), K r → (narrow .boolean (.int (jz r)) = .int (jz r) → FinI g 0 0 (w_X4_areTwo (xG g) a_this a_this_gaps c_this_size) (jz r))) (h : wp (f_X4_areTwo p1 p2 c_this_size) K) : WW g 0 0 (w_X4_areTwo (xG g) a_this a_this_gaps c_this_size) 0 [(0, .ref a_this), (1, .int (jz p1)), (2, .int (jz p2))] [] := by
  unfold f_X4_areTwo at h
  refine r_iload_n C (pc := 0) dX4_areTwo_0 rfl 1 rfl ?_
  refine jn_e (fun (k34 : Int → Option Int) => ∀ (s0_34 : Int), wp (k34 s0_34) K → WW g 0 0 (w_X4_areTwo (xG g) a_this a_this_gaps c_this_size) 34 [] [.int (jz s0_34)]) h (fun s0_34 h => ?_) (fun k34 hk34 h => ?_)
  · exact r_iret C (pc := 34) dX4_areTwo_34 (hK s0_34 (wp_s (wp_g h).2) (nB (wp_g h).1).1)
  · refine jn_e (fun (k33 : Option Int) => wp (k33) K → WW g 0 0 (w_X4_areTwo (xG g) a_this a_this_gaps c_this_size) 33 [] []) h (fun h => ?_) (fun k33 hk33 h => ?_)
    · refine r_iconst C (pc := 33) dX4_areTwo_33 ?_
      exact hk34 0 h
    · refine r_if_lt C (pc := 1) 33 dX4_areTwo_1 rfl h (fun c1 h => ?_) (fun c1 h => ?_)
      · refine r_sub [] rfl ?_
        exact hk33 h
      · refine r_iload_n C (pc := 4) dX4_areTwo_4 rfl 1 rfl ?_
        refine r_aload_n C (pc := 5) dX4_areTwo_5 rfl 0 rfl ?_
        refine r_get C (pc := 6) dX4_areTwo_6 gf_X4_areTwo_28 0 rfl rfl ?_
        refine r_icmp_ge C (pc := 9) 33 dX4_areTwo_9 rfl h (fun c9 h => ?_) (fun c9 h => ?_)
        · refine r_sub [] rfl ?_
          exact hk33 h
        · refine r_iload_n C (pc := 12) dX4_areTwo_12 rfl 2 rfl ?_
          refine r_if_lt C (pc := 13) 33 dX4_areTwo_13 rfl h (fun c13 h => ?_) (fun c13 h => ?_)
          · refine r_sub [] rfl ?_
            exact hk33 h
          · refine r_iload_n C (pc := 16) dX4_areTwo_16 rfl 2 rfl ?_
            refine r_aload_n C (pc := 17) dX4_areTwo_17 rfl 0 rfl ?_
            refine r_get C (pc := 18) dX4_areTwo_18 gf_X4_areTwo_28 0 rfl rfl ?_
            refine r_icmp_ge C (pc := 21) 33 dX4_areTwo_21 rfl h (fun c21 h => ?_) (fun c21 h => ?_)
            · refine r_sub [] rfl ?_
              exact hk33 h
            · refine r_iload_n C (pc := 24) dX4_areTwo_24 rfl 1 rfl ?_
              refine r_iload_n C (pc := 25) dX4_areTwo_25 rfl 2 rfl ?_
              refine r_icmp_eq C (pc := 26) 33 dX4_areTwo_26 rfl h (fun c26 h => ?_) (fun c26 h => ?_)
              · refine r_sub [] rfl ?_
                exact hk33 h
              · refine r_iconst C (pc := 29) dX4_areTwo_29 ?_
                refine r_goto C (pc := 30) 34 dX4_areTwo_30 rfl ?_
                refine r_sub [] rfl ?_
                exact hk34 1 h
theorem c_X4_areTwo (l : Launch) (G : gG) (a_this : Nat) (a_this_gaps : Nat) (c_this_size : Int) (p1 : Int) (p2 : Int) (r : Int) (hf : f_X4_areTwo p1 p2 c_this_size = some r) : CTi l yX4_areTwo wsX4_areTwo rm_X4_areTwo G (w_X4_areTwo G a_this a_this_gaps c_this_size) [.ref a_this, .int (jz p1), .int (jz p2)] (jz r) (w_X4_areTwo G a_this a_this_gaps c_this_size) := CTi_of (by decide) rfl rfl (Nat.le_of_ble_eq_true rfl) (fun g C hG hl hF => by
    subst hG
    subst hl
    exact k_X4_areTwo C a_this a_this_gaps c_this_size p1 p2 (fun x => x = r) (fun r' e => by cases e; exact hF) ⟨_, hf, rfl⟩)

-- TightHulls$Table.gap(II)I
def f_X4_gap (p1 : Int) (p2 : Int) (c_this_size : Int) (c_this_gaps : Nat → Int) : Option Int := jn (fun (s0_29 : Int) => jn (fun (s0_48 : Int) => some s0_48) (fun (k48 : Int → Option Int) => if eqI s0_29 0 = true then (k48 0) else (grd (iin ((5 * p1) + p2) 25) (k48 (c_this_gaps (ix ((5 * p1) + p2))))))) (fun (k29 : Int → Option Int) => jn (k29 0) (fun (k28 : Option Int) => if ltI p1 0 = true then k28 else (if ltI p1 c_this_size = true then (if ltI p2 0 = true then k28 else (if ltI p2 c_this_size = true then (k29 1) else k28)) else k28)))
abbrev rm_X4_gap : Room := { frames := 0, cells := 0, slots := 0, locals := 0 }
abbrev w_X4_gap (G : gG) (a_this : Nat) (a_this_gaps : Nat) (c_this_size : Int) (c_this_gaps : Nat → Int) : va_W := [(a_this, .inr (4, [.int (jz c_this_size), .ref a_this_gaps])), (a_this_gaps, aI G 25 c_this_gaps)]
theorem hd_X4_gap : yX4_gap.cls = RX4 ∧ yX4_gap.cls ≠ "java/lang/invoke/MethodHandle" ∧ yX4_gap.cls ≠ "java/lang/invoke/VarHandle" ∧ (parseMethodDescriptor yX4_gap.desc).map (fun d => d.parameters.length) = some 2 := by decide +kernel
theorem in_X4_gap_X4 : ∀ w ∈ u_ws RX4 TX4 2, w ∈ wsX4_gap := fun w h => List.mem_cons_of_mem _ (List.mem_append_right _ (h))
theorem gf_X4_gap_9 : GF wsX4_gap RX4 9 4 1 := ⟨RX4, TX4, 2, rfl, in_X4_gap_X4, by decide, List.mem_of_getElem? (i := 2) rfl⟩
theorem gf_X4_gap_28 : GF wsX4_gap RX4 28 4 0 := ⟨RX4, TX4, 2, rfl, in_X4_gap_X4, by decide, List.mem_of_getElem? (i := 1) rfl⟩
set_option maxRecDepth 100000 in
set_option maxHeartbeats 4000000 in
theorem k_X4_gap {g : XC} (C : XOk g cX4_gap RX4 wsX4_gap rm_X4_gap 4) (a_this : Nat) (a_this_gaps : Nat) (c_this_size : Int) (c_this_gaps : Nat → Int) (p1 : Int) (p2 : Int) (K : Int → Prop) (hK : ∀ (r : Int), K r → (narrow .int (.int (jz r)) = .int (jz r) → FinI g 0 0 (w_X4_gap (xG g) a_this a_this_gaps c_this_size c_this_gaps) (jz r))) (h : wp (f_X4_gap p1 p2 c_this_size c_this_gaps) K) : WW g 0 0 (w_X4_gap (xG g) a_this a_this_gaps c_this_size c_this_gaps) 0 [(0, .ref a_this), (1, .int (jz p1)), (2, .int (jz p2))] [] := by
  unfold f_X4_gap at h
  refine r_iload_n C (pc := 0) dX4_gap_0 rfl 1 rfl ?_
  refine jn_e (fun (k29 : Int → Option Int) => ∀ (s0_29 : Int), wp (k29 s0_29) K → WW g 0 0 (w_X4_gap (xG g) a_this a_this_gaps c_this_size c_this_gaps) 29 [(0, .ref a_this), (1, .int (jz p1)), (2, .int (jz p2))] [.int (jz s0_29)]) h (fun s0_29 h => ?_) (fun k29 hk29 h => ?_)
  · refine r_istore_n C (pc := 29) dX4_gap_29 rfl (by decide) (L' := [(0, .ref a_this), (1, .int (jz p1)), (2, .int (jz p2)), (3, .int (jz s0_29))]) rfl ?_
    refine r_iload_n C (pc := 30) dX4_gap_30 rfl 3 rfl ?_
    refine jn_e (fun (k48 : Int → Option Int) => ∀ (s0_48 : Int), wp (k48 s0_48) K → WW g 0 0 (w_X4_gap (xG g) a_this a_this_gaps c_this_size c_this_gaps) 48 [] [.int (jz s0_48)]) h (fun s0_48 h => ?_) (fun k48 hk48 h => ?_)
    · exact r_iret C (pc := 48) dX4_gap_48 (hK s0_48 (wp_s h) rfl)
    · refine r_if_eq C (pc := 31) 47 dX4_gap_31 rfl h (fun c31 h => ?_) (fun c31 h => ?_)
      · refine r_iconst C (pc := 47) dX4_gap_47 ?_
        refine r_sub [] rfl ?_
        exact hk48 0 h
      · refine r_aload_n C (pc := 34) dX4_gap_34 rfl 0 rfl ?_
        refine r_get C (pc := 35) dX4_gap_35 gf_X4_gap_9 0 rfl rfl ?_
        refine r_iconst C (pc := 38) dX4_gap_38 ?_
        refine r_iload_n C (pc := 39) dX4_gap_39 rfl 1 rfl ?_
        refine r_imul C (pc := 40) dX4_gap_40 ?_
        refine r_iload_n C (pc := 41) dX4_gap_41 rfl 2 rfl ?_
        refine r_iadd C (pc := 42) dX4_gap_42 ?_
        refine r_iald C (pc := 43) dX4_gap_43 h 1 rfl (fun h => ?_)
        refine r_goto C (pc := 44) 48 dX4_gap_44 rfl ?_
        refine r_sub [] rfl ?_
        exact hk48 (c_this_gaps (ix ((5 * p1) + p2))) h
  · refine jn_e (fun (k28 : Option Int) => wp (k28) K → WW g 0 0 (w_X4_gap (xG g) a_this a_this_gaps c_this_size c_this_gaps) 28 [(0, .ref a_this), (1, .int (jz p1)), (2, .int (jz p2))] []) h (fun h => ?_) (fun k28 hk28 h => ?_)
    · refine r_iconst C (pc := 28) dX4_gap_28 ?_
      exact hk29 0 h
    · refine r_if_lt C (pc := 1) 28 dX4_gap_1 rfl h (fun c1 h => ?_) (fun c1 h => ?_)
      · exact hk28 h
      · refine r_iload_n C (pc := 4) dX4_gap_4 rfl 1 rfl ?_
        refine r_aload_n C (pc := 5) dX4_gap_5 rfl 0 rfl ?_
        refine r_get C (pc := 6) dX4_gap_6 gf_X4_gap_28 0 rfl rfl ?_
        refine r_icmp_ge C (pc := 9) 28 dX4_gap_9 rfl h (fun c9 h => ?_) (fun c9 h => ?_)
        · exact hk28 h
        · refine r_iload_n C (pc := 12) dX4_gap_12 rfl 2 rfl ?_
          refine r_if_lt C (pc := 13) 28 dX4_gap_13 rfl h (fun c13 h => ?_) (fun c13 h => ?_)
          · exact hk28 h
          · refine r_iload_n C (pc := 16) dX4_gap_16 rfl 2 rfl ?_
            refine r_aload_n C (pc := 17) dX4_gap_17 rfl 0 rfl ?_
            refine r_get C (pc := 18) dX4_gap_18 gf_X4_gap_28 0 rfl rfl ?_
            refine r_icmp_ge C (pc := 21) 28 dX4_gap_21 rfl h (fun c21 h => ?_) (fun c21 h => ?_)
            · exact hk28 h
            · refine r_iconst C (pc := 24) dX4_gap_24 ?_
              refine r_goto C (pc := 25) 29 dX4_gap_25 rfl ?_
              exact hk29 1 h
theorem c_X4_gap (l : Launch) (G : gG) (a_this : Nat) (a_this_gaps : Nat) (c_this_size : Int) (c_this_gaps : Nat → Int) (p1 : Int) (p2 : Int) (r : Int) (hf : f_X4_gap p1 p2 c_this_size c_this_gaps = some r) : CTi l yX4_gap wsX4_gap rm_X4_gap G (w_X4_gap G a_this a_this_gaps c_this_size c_this_gaps) [.ref a_this, .int (jz p1), .int (jz p2)] (jz r) (w_X4_gap G a_this a_this_gaps c_this_size c_this_gaps) := CTi_of (by decide) rfl rfl (Nat.le_of_ble_eq_true rfl) (fun g C hG hl hF => by
    subst hG
    subst hl
    exact k_X4_gap C a_this a_this_gaps c_this_size c_this_gaps p1 p2 (fun x => x = r) (fun r' e => by cases e; exact hF) ⟨_, hf, rfl⟩)

-- TightHulls$Table.put(III)V
def f_X4_put (p1 : Int) (p2 : Int) (p3 : Int) (c_this_size : Int) (c_this_gaps : Nat → Int) : Option (Nat → Int) := bd1 (f_X4_areTwo p1 p2 c_this_size) (fun r3 => jn (fun (this_gaps_31 : Nat → Int) => some this_gaps_31) (fun (k31 : (Nat → Int) → Option (Nat → Int)) => if eqI r3 0 = true then (k31 c_this_gaps) else (grd (iin ((5 * p1) + p2) 25) (grd (iin ((5 * p2) + p1) 25) (k31 (up (up c_this_gaps (ix ((5 * p1) + p2)) p3) (ix ((5 * p2) + p1)) p3))))))
abbrev rm_X4_put : Room := { frames := 1, cells := 0, slots := 0, locals := 22 }
abbrev w_X4_put (G : gG) (a_this : Nat) (a_this_gaps : Nat) (c_this_size : Int) (c_this_gaps : Nat → Int) : va_W := [(a_this, .inr (4, [.int (jz c_this_size), .ref a_this_gaps])), (a_this_gaps, aI G 25 c_this_gaps)]
theorem hd_X4_put : yX4_put.cls = RX4 ∧ yX4_put.cls ≠ "java/lang/invoke/MethodHandle" ∧ yX4_put.cls ≠ "java/lang/invoke/VarHandle" ∧ (parseMethodDescriptor yX4_put.desc).map (fun d => d.parameters.length) = some 3 := by decide +kernel
theorem in_X4_put_X4 : ∀ w ∈ u_ws RX4 TX4 2, w ∈ wsX4_put := fun w h => List.mem_cons_of_mem _ (List.mem_append_right _ (h))
theorem gf_X4_put_9 : GF wsX4_put RX4 9 4 1 := ⟨RX4, TX4, 2, rfl, in_X4_put_X4, by decide, List.mem_of_getElem? (i := 1) rfl⟩
set_option maxRecDepth 100000 in
set_option maxHeartbeats 4000000 in
theorem k_X4_put {g : XC} (C : XOk g cX4_put RX4 wsX4_put rm_X4_put 4) (a_this : Nat) (a_this_gaps : Nat) (c_this_size : Int) (c_this_gaps : Nat → Int) (p1 : Int) (p2 : Int) (p3 : Int) (K : (Nat → Int) → Prop) (hK : ∀ (o0 : Nat → Int), K o0 → FinV g 0 0 (w_X4_put (xG g) a_this a_this_gaps c_this_size o0)) (h : wp (f_X4_put p1 p2 p3 c_this_size c_this_gaps) K) : WW g 0 0 (w_X4_put (xG g) a_this a_this_gaps c_this_size c_this_gaps) 0 [(0, .ref a_this), (1, .int (jz p1)), (2, .int (jz p2)), (3, .int (jz p3))] [] := by
  unfold f_X4_put at h
  refine r_aload_n C (pc := 0) dX4_put_0 rfl 0 rfl ?_
  refine r_iload_n C (pc := 1) dX4_put_1 rfl 1 rfl ?_
  refine r_iload_n C (pc := 2) dX4_put_2 rfl 2 rfl ?_
  obtain ⟨r3, e3, h⟩ := wp_b1 h
  refine b_cVi C (pc := 3) dX4_put_3 (c_X4_areTwo (xl g) (xG g) a_this a_this_gaps c_this_size p1 p2 r3 e3) rfl gX4_put_X4_areTwo ⟨rfl, rfl⟩ 2 hd_X4_areTwo ⟨Nat.le_of_ble_eq_true rfl, Nat.le_of_ble_eq_true rfl⟩ rfl 0 rfl rfl rfl [0] rfl rfl rfl (ws' := w_X4_put (xG g) a_this a_this_gaps c_this_size c_this_gaps) rfl rfl (rest := []) rfl (Nat.le_of_ble_eq_true rfl) ⟨Nat.zero_le _, Nat.zero_le _⟩ ?_
  refine jn_e (fun (k31 : (Nat → Int) → Option (Nat → Int)) => ∀ (this_gaps_31 : Nat → Int), wp (k31 this_gaps_31) K → WW g 0 0 (w_X4_put (xG g) a_this a_this_gaps c_this_size this_gaps_31) 31 [] []) h (fun this_gaps_31 h => ?_) (fun k31 hk31 h => ?_)
  · exact r_vret C (pc := 31) dX4_put_31 (hK this_gaps_31 (wp_s h))
  · refine r_if_eq C (pc := 6) 31 dX4_put_6 rfl h (fun c6 h => ?_) (fun c6 h => ?_)
    · refine r_sub [] rfl ?_
      exact hk31 c_this_gaps h
    · refine r_aload_n C (pc := 9) dX4_put_9 rfl 0 rfl ?_
      refine r_get C (pc := 10) dX4_put_10 gf_X4_put_9 0 rfl rfl ?_
      refine r_iconst C (pc := 13) dX4_put_13 ?_
      refine r_iload_n C (pc := 14) dX4_put_14 rfl 1 rfl ?_
      refine r_imul C (pc := 15) dX4_put_15 ?_
      refine r_iload_n C (pc := 16) dX4_put_16 rfl 2 rfl ?_
      refine r_iadd C (pc := 17) dX4_put_17 ?_
      refine r_iload_n C (pc := 18) dX4_put_18 rfl 3 rfl ?_
      refine r_iast C (pc := 19) dX4_put_19 h 1 rfl (ws' := w_X4_put (xG g) a_this a_this_gaps c_this_size (up c_this_gaps (ix ((5 * p1) + p2)) p3)) rfl (fun h => ?_)
      refine r_aload_n C (pc := 20) dX4_put_20 rfl 0 rfl ?_
      refine r_get C (pc := 21) dX4_put_21 gf_X4_put_9 0 rfl rfl ?_
      refine r_iconst C (pc := 24) dX4_put_24 ?_
      refine r_iload_n C (pc := 25) dX4_put_25 rfl 2 rfl ?_
      refine r_imul C (pc := 26) dX4_put_26 ?_
      refine r_iload_n C (pc := 27) dX4_put_27 rfl 1 rfl ?_
      refine r_iadd C (pc := 28) dX4_put_28 ?_
      refine r_iload_n C (pc := 29) dX4_put_29 rfl 3 rfl ?_
      refine r_iast C (pc := 30) dX4_put_30 h 1 rfl (ws' := w_X4_put (xG g) a_this a_this_gaps c_this_size (up (up c_this_gaps (ix ((5 * p1) + p2)) p3) (ix ((5 * p2) + p1)) p3)) rfl (fun h => ?_)
      refine r_sub [] rfl ?_
      exact hk31 (up (up c_this_gaps (ix ((5 * p1) + p2)) p3) (ix ((5 * p2) + p1)) p3) h
theorem c_X4_put (l : Launch) (G : gG) (a_this : Nat) (a_this_gaps : Nat) (c_this_size : Int) (c_this_gaps : Nat → Int) (p1 : Int) (p2 : Int) (p3 : Int) (o0 : Nat → Int) (hf : f_X4_put p1 p2 p3 c_this_size c_this_gaps = some o0) : CTv l yX4_put wsX4_put rm_X4_put G (w_X4_put G a_this a_this_gaps c_this_size c_this_gaps) [.ref a_this, .int (jz p1), .int (jz p2), .int (jz p3)] (w_X4_put G a_this a_this_gaps c_this_size o0) := CTv_of (by decide) rfl rfl (Nat.le_of_ble_eq_true rfl) (fun g C hG hl hF => by
    subst hG
    subst hl
    exact k_X4_put C a_this a_this_gaps c_this_size c_this_gaps p1 p2 p3 (fun x => x = o0) (fun o0' e => by cases e; exact hF) ⟨_, hf, rfl⟩)

-- TightHulls$Table.girth()I
def f_X4_girth (c_this_size : Int) (c_this_gaps : Nat → Int) : Option Int := lq2 (fun (n4 : Int → Int → Option Int) (v1_4 : Int) (v2_4 : Int) => if ltI v2_4 c_this_size = true then (lv ((v2_4 + 1)) (fun x15 => lq2 (fun (n16 : Int → Int → Option Int) (v1_16 : Int) (v3_16 : Int) => if ltI v3_16 c_this_size = true then (bd1 (f_X4_gap v2_4 v3_16 c_this_size c_this_gaps) (fun r28 => lv ((v1_16 + r28)) (fun x32 => n16 x32 (v3_16 + 1)))) else (n4 v1_16 (v2_4 + 1))) 300 v1_4 x15)) else (some v1_4)) 300 0 0
abbrev rm_X4_girth : Room := { frames := 1, cells := 0, slots := 0, locals := 23 }
abbrev w_X4_girth (G : gG) (a_this : Nat) (a_this_gaps : Nat) (c_this_size : Int) (c_this_gaps : Nat → Int) : va_W := [(a_this, .inr (4, [.int (jz c_this_size), .ref a_this_gaps])), (a_this_gaps, aI G 25 c_this_gaps)]
theorem hd_X4_girth : yX4_girth.cls = RX4 ∧ yX4_girth.cls ≠ "java/lang/invoke/MethodHandle" ∧ yX4_girth.cls ≠ "java/lang/invoke/VarHandle" ∧ (parseMethodDescriptor yX4_girth.desc).map (fun d => d.parameters.length) = some 0 := by decide +kernel
theorem in_X4_girth_X4 : ∀ w ∈ u_ws RX4 TX4 2, w ∈ wsX4_girth := fun w h => List.mem_cons_of_mem _ (List.mem_append_right _ (h))
theorem gf_X4_girth_28 : GF wsX4_girth RX4 28 4 0 := ⟨RX4, TX4, 2, rfl, in_X4_girth_X4, by decide, List.mem_of_getElem? (i := 1) rfl⟩
set_option maxRecDepth 100000 in
set_option maxHeartbeats 4000000 in
theorem k_X4_girth {g : XC} (C : XOk g cX4_girth RX4 wsX4_girth rm_X4_girth 4) (a_this : Nat) (a_this_gaps : Nat) (c_this_size : Int) (c_this_gaps : Nat → Int)  (K : Int → Prop) (hK : ∀ (r : Int), K r → (narrow .int (.int (jz r)) = .int (jz r) → FinI g 0 0 (w_X4_girth (xG g) a_this a_this_gaps c_this_size c_this_gaps) (jz r))) (h : wp (f_X4_girth c_this_size c_this_gaps) K) : WW g 0 0 (w_X4_girth (xG g) a_this a_this_gaps c_this_size c_this_gaps) 0 [(0, .ref a_this)] [] := by
  unfold f_X4_girth at h
  refine r_iconst C (pc := 0) dX4_girth_0 ?_
  refine r_istore_n C (pc := 1) dX4_girth_1 rfl (by decide) (L' := [(0, .ref a_this), (1, .int (jz 0))]) rfl ?_
  refine r_iconst C (pc := 2) dX4_girth_2 ?_
  refine r_istore_n C (pc := 3) dX4_girth_3 rfl (by decide) (L' := [(0, .ref a_this), (1, .int (jz 0)), (2, .int (jz 0))]) rfl ?_
  refine lq2_e (fun (v1_4 : Int) (v2_4 : Int) => WW g 0 0 (w_X4_girth (xG g) a_this a_this_gaps c_this_size c_this_gaps) 4 [(0, .ref a_this), (1, .int (jz v1_4)), (2, .int (jz v2_4))] []) h (fun n4 hn4 v1_4 v2_4 h => ?_)
  refine r_iload_n C (pc := 4) dX4_girth_4 rfl 2 rfl ?_
  refine r_aload_n C (pc := 5) dX4_girth_5 rfl 0 rfl ?_
  refine r_get C (pc := 6) dX4_girth_6 gf_X4_girth_28 0 rfl rfl ?_
  refine r_icmp_ge C (pc := 9) 45 dX4_girth_9 rfl h (fun c9 h => ?_) (fun c9 h => ?_)
  · refine r_iload_n C (pc := 45) dX4_girth_45 rfl 1 rfl ?_
    exact r_iret C (pc := 46) dX4_girth_46 (hK v1_4 (wp_s h) rfl)
  · refine r_iload_n C (pc := 12) dX4_girth_12 rfl 2 rfl ?_
    refine r_iconst C (pc := 13) dX4_girth_13 ?_
    refine r_iadd C (pc := 14) dX4_girth_14 ?_
    refine r_let h (fun x15 h => ?_)
    refine r_istore_n C (pc := 15) dX4_girth_15 rfl (by decide) (L' := [(0, .ref a_this), (1, .int (jz v1_4)), (2, .int (jz v2_4)), (3, .int (jz x15))]) rfl ?_
    refine lq2_e (fun (v1_16 : Int) (v3_16 : Int) => WW g 0 0 (w_X4_girth (xG g) a_this a_this_gaps c_this_size c_this_gaps) 16 [(0, .ref a_this), (1, .int (jz v1_16)), (2, .int (jz v2_4)), (3, .int (jz v3_16))] []) h (fun n16 hn16 v1_16 v3_16 h => ?_)
    refine r_iload_n C (pc := 16) dX4_girth_16 rfl 3 rfl ?_
    refine r_aload_n C (pc := 17) dX4_girth_17 rfl 0 rfl ?_
    refine r_get C (pc := 18) dX4_girth_18 gf_X4_girth_28 0 rfl rfl ?_
    refine r_icmp_ge C (pc := 21) 39 dX4_girth_21 rfl h (fun c21 h => ?_) (fun c21 h => ?_)
    · refine r_iinc C (pc := 39) dX4_girth_39 2 rfl (by decide) (L' := [(0, .ref a_this), (1, .int (jz v1_16)), (2, .int (jz (v2_4 + 1))), (3, .int (jz v3_16))]) rfl ?_
      refine r_goto C (pc := 42) 4 dX4_girth_42 rfl ?_
      refine r_sub [0, 1, 2] rfl ?_
      exact hn4 v1_16 (v2_4 + 1) h
    · refine r_iload_n C (pc := 24) dX4_girth_24 rfl 1 rfl ?_
      refine r_aload_n C (pc := 25) dX4_girth_25 rfl 0 rfl ?_
      refine r_iload_n C (pc := 26) dX4_girth_26 rfl 2 rfl ?_
      refine r_iload_n C (pc := 27) dX4_girth_27 rfl 3 rfl ?_
      obtain ⟨r28, e28, h⟩ := wp_b1 h
      refine b_cVi C (pc := 28) dX4_girth_28 (c_X4_gap (xl g) (xG g) a_this a_this_gaps c_this_size c_this_gaps v2_4 v3_16 r28 e28) rfl gX4_girth_X4_gap ⟨rfl, rfl⟩ 2 hd_X4_gap ⟨Nat.le_of_ble_eq_true rfl, Nat.le_of_ble_eq_true rfl⟩ rfl 0 rfl rfl rfl [0, 1] rfl rfl rfl (ws' := w_X4_girth (xG g) a_this a_this_gaps c_this_size c_this_gaps) rfl rfl (rest := [.int (jz v1_16)]) rfl (Nat.le_of_ble_eq_true rfl) ⟨Nat.zero_le _, Nat.zero_le _⟩ ?_
      refine r_iadd C (pc := 31) dX4_girth_31 ?_
      refine r_let h (fun x32 h => ?_)
      refine r_istore_n C (pc := 32) dX4_girth_32 rfl (by decide) (L' := [(0, .ref a_this), (1, .int (jz x32)), (2, .int (jz v2_4)), (3, .int (jz v3_16))]) rfl ?_
      refine r_iinc C (pc := 33) dX4_girth_33 3 rfl (by decide) (L' := [(0, .ref a_this), (1, .int (jz x32)), (2, .int (jz v2_4)), (3, .int (jz (v3_16 + 1)))]) rfl ?_
      refine r_goto C (pc := 36) 16 dX4_girth_36 rfl ?_
      exact hn16 x32 (v3_16 + 1) h
theorem c_X4_girth (l : Launch) (G : gG) (a_this : Nat) (a_this_gaps : Nat) (c_this_size : Int) (c_this_gaps : Nat → Int) (r : Int) (hf : f_X4_girth c_this_size c_this_gaps = some r) : CTi l yX4_girth wsX4_girth rm_X4_girth G (w_X4_girth G a_this a_this_gaps c_this_size c_this_gaps) [.ref a_this] (jz r) (w_X4_girth G a_this a_this_gaps c_this_size c_this_gaps) := CTi_of (by decide) rfl rfl (Nat.le_of_ble_eq_true rfl) (fun g C hG hl hF => by
    subst hG
    subst hl
    exact k_X4_girth C a_this a_this_gaps c_this_size c_this_gaps (fun x => x = r) (fun r' e => by cases e; exact hF) ⟨_, hf, rfl⟩)

