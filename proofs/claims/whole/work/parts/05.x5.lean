-- TightHulls$Tapes.has(I)Z
def f_X5_has (p1 : Int) : Option Int := jn (fun (s0_15 : Int) => grd (isB s0_15) (some s0_15)) (fun (k15 : Int → Option Int) => jn (k15 0) (fun (k14 : Option Int) => if ltI p1 0 = true then k14 else (if ltI p1 6 = true then (k15 1) else k14)))
abbrev rm_X5_has : Room := { frames := 0, cells := 0, slots := 0, locals := 0 }
abbrev w_X5_has (G : gG) (a_this : Nat) (a_this_items : Nat) (a_this_sorts : Nat) (a_this_lengths : Nat) : va_W := [(a_this, .inr (5, [.ref a_this_items, .ref a_this_sorts, .ref a_this_lengths]))]
theorem hd_X5_has : yX5_has.cls = RX5 ∧ yX5_has.cls ≠ "java/lang/invoke/MethodHandle" ∧ yX5_has.cls ≠ "java/lang/invoke/VarHandle" ∧ (parseMethodDescriptor yX5_has.desc).map (fun d => d.parameters.length) = some 1 := by decide +kernel
set_option maxRecDepth 100000 in
set_option maxHeartbeats 4000000 in
theorem k_X5_has {g : XC} (C : XOk g cX5_has RX5 wsX5_has rm_X5_has 2) (a_this : Nat) (a_this_items : Nat) (a_this_sorts : Nat) (a_this_lengths : Nat) (p1 : Int) (K : Int → Prop) (hK : ∀ (r : Int), K r → (narrow .boolean (.int (jz r)) = .int (jz r) → FinI g 0 0 (w_X5_has (xG g) a_this a_this_items a_this_sorts a_this_lengths) (jz r))) (h : wp (f_X5_has p1) K) : WW g 0 0 (w_X5_has (xG g) a_this a_this_items a_this_sorts a_this_lengths) 0 [(0, .ref a_this), (1, .int (jz p1))] [] := by
  unfold f_X5_has at h
  refine r_iload_n C (pc := 0) dX5_has_0 rfl 1 rfl ?_
  refine jn_e (fun (k15 : Int → Option Int) => ∀ (s0_15 : Int), wp (k15 s0_15) K → WW g 0 0 (w_X5_has (xG g) a_this a_this_items a_this_sorts a_this_lengths) 15 [] [.int (jz s0_15)]) h (fun s0_15 h => ?_) (fun k15 hk15 h => ?_)
  · exact r_iret C (pc := 15) dX5_has_15 (hK s0_15 (wp_s (wp_g h).2) (nB (wp_g h).1).1)
  · refine jn_e (fun (k14 : Option Int) => wp (k14) K → WW g 0 0 (w_X5_has (xG g) a_this a_this_items a_this_sorts a_this_lengths) 14 [] []) h (fun h => ?_) (fun k14 hk14 h => ?_)
    · refine r_iconst C (pc := 14) dX5_has_14 ?_
      exact hk15 0 h
    · refine r_if_lt C (pc := 1) 14 dX5_has_1 rfl h (fun c1 h => ?_) (fun c1 h => ?_)
      · refine r_sub [] rfl ?_
        exact hk14 h
      · refine r_iload_n C (pc := 4) dX5_has_4 rfl 1 rfl ?_
        refine r_bipush C (pc := 5) dX5_has_5 rfl ?_
        refine r_icmp_ge C (pc := 7) 14 dX5_has_7 rfl h (fun c7 h => ?_) (fun c7 h => ?_)
        · refine r_sub [] rfl ?_
          exact hk14 h
        · refine r_iconst C (pc := 10) dX5_has_10 ?_
          refine r_goto C (pc := 11) 15 dX5_has_11 rfl ?_
          refine r_sub [] rfl ?_
          exact hk15 1 h
theorem c_X5_has (l : Launch) (G : gG) (a_this : Nat) (a_this_items : Nat) (a_this_sorts : Nat) (a_this_lengths : Nat) (p1 : Int) (r : Int) (hf : f_X5_has p1 = some r) : CTi l yX5_has wsX5_has rm_X5_has G (w_X5_has G a_this a_this_items a_this_sorts a_this_lengths) [.ref a_this, .int (jz p1)] (jz r) (w_X5_has G a_this a_this_items a_this_sorts a_this_lengths) := CTi_of (by decide) rfl rfl (Nat.le_of_ble_eq_true rfl) (fun g C hG hl hF => by
    subst hG
    subst hl
    exact k_X5_has C a_this a_this_items a_this_sorts a_this_lengths p1 (fun x => x = r) (fun r' e => by cases e; exact hF) ⟨_, hf, rfl⟩)

-- TightHulls$Tapes.holdsNothing(I)Z
def f_X5_holdsNothing (p1 : Int) (c_this_sorts : Nat → Int) : Option Int := bd1 (f_X5_has p1) (fun r2 => jn (fun (s0_23 : Int) => grd (isB s0_23) (some s0_23)) (fun (k23 : Int → Option Int) => jn (k23 1) (fun (k18 : Option Int) => if eqI r2 0 = true then k18 else (grd (iin p1 6) (if eqI (c_this_sorts (ix p1)) (-1) = true then k18 else (k23 0))))))
abbrev rm_X5_holdsNothing : Room := { frames := 1, cells := 0, slots := 0, locals := 21 }
abbrev w_X5_holdsNothing (G : gG) (a_this : Nat) (a_this_items : Nat) (a_this_sorts : Nat) (a_this_lengths : Nat) (c_this_sorts : Nat → Int) : va_W := [(a_this, .inr (5, [.ref a_this_items, .ref a_this_sorts, .ref a_this_lengths])), (a_this_sorts, aI G 6 c_this_sorts)]
theorem hd_X5_holdsNothing : yX5_holdsNothing.cls = RX5 ∧ yX5_holdsNothing.cls ≠ "java/lang/invoke/MethodHandle" ∧ yX5_holdsNothing.cls ≠ "java/lang/invoke/VarHandle" ∧ (parseMethodDescriptor yX5_holdsNothing.desc).map (fun d => d.parameters.length) = some 1 := by decide +kernel
theorem in_X5_holdsNothing_X5 : ∀ w ∈ u_ws RX5 TX5 3, w ∈ wsX5_holdsNothing := fun w h => List.mem_cons_of_mem _ (List.mem_append_right _ (h))
theorem gf_X5_holdsNothing_14 : GF wsX5_holdsNothing RX5 14 5 1 := ⟨RX5, TX5, 3, rfl, in_X5_holdsNothing_X5, by decide, List.mem_of_getElem? (i := 1) rfl⟩
set_option maxRecDepth 100000 in
set_option maxHeartbeats 4000000 in
theorem k_X5_holdsNothing {g : XC} (C : XOk g cX5_holdsNothing RX5 wsX5_holdsNothing rm_X5_holdsNothing 2) (a_this : Nat) (a_this_items : Nat) (a_this_sorts : Nat) (a_this_lengths : Nat) (c_this_sorts : Nat → Int) (p1 : Int) (K : Int → Prop) (hK : ∀ (r : Int), K r → (narrow .boolean (.int (jz r)) = .int (jz r) → FinI g 0 0 (w_X5_holdsNothing (xG g) a_this a_this_items a_this_sorts a_this_lengths c_this_sorts) (jz r))) (h : wp (f_X5_holdsNothing p1 c_this_sorts) K) : WW g 0 0 (w_X5_holdsNothing (xG g) a_this a_this_items a_this_sorts a_this_lengths c_this_sorts) 0 [(0, .ref a_this), (1, .int (jz p1))] [] := by
  unfold f_X5_holdsNothing at h
  refine r_aload_n C (pc := 0) dX5_holdsNothing_0 rfl 0 rfl ?_
  refine r_iload_n C (pc := 1) dX5_holdsNothing_1 rfl 1 rfl ?_
  obtain ⟨r2, e2, h⟩ := wp_b1 h
  refine b_cVi C (pc := 2) dX5_holdsNothing_2 (c_X5_has (xl g) (xG g) a_this a_this_items a_this_sorts a_this_lengths p1 r2 e2) rfl gX5_holdsNothing_X5_has ⟨rfl, rfl⟩ 1 hd_X5_has ⟨Nat.le_of_ble_eq_true rfl, Nat.le_of_ble_eq_true rfl⟩ rfl 0 rfl rfl rfl [0] rfl (srt_nd 0 rfl) (ws' := w_X5_holdsNothing (xG g) a_this a_this_items a_this_sorts a_this_lengths c_this_sorts) (Put.m rfl rfl rfl) rfl (rest := []) rfl (Nat.le_of_ble_eq_true rfl) ⟨Nat.zero_le _, Nat.zero_le _⟩ ?_
  refine jn_e (fun (k23 : Int → Option Int) => ∀ (s0_23 : Int), wp (k23 s0_23) K → WW g 0 0 (w_X5_holdsNothing (xG g) a_this a_this_items a_this_sorts a_this_lengths c_this_sorts) 23 [] [.int (jz s0_23)]) h (fun s0_23 h => ?_) (fun k23 hk23 h => ?_)
  · exact r_iret C (pc := 23) dX5_holdsNothing_23 (hK s0_23 (wp_s (wp_g h).2) (nB (wp_g h).1).1)
  · refine jn_e (fun (k18 : Option Int) => wp (k18) K → WW g 0 0 (w_X5_holdsNothing (xG g) a_this a_this_items a_this_sorts a_this_lengths c_this_sorts) 18 [] []) h (fun h => ?_) (fun k18 hk18 h => ?_)
    · refine r_iconst C (pc := 18) dX5_holdsNothing_18 ?_
      refine r_goto C (pc := 19) 23 dX5_holdsNothing_19 rfl ?_
      exact hk23 1 h
    · refine r_if_eq C (pc := 5) 18 dX5_holdsNothing_5 rfl h (fun c5 h => ?_) (fun c5 h => ?_)
      · refine r_sub [] rfl ?_
        exact hk18 h
      · refine r_aload_n C (pc := 8) dX5_holdsNothing_8 rfl 0 rfl ?_
        refine r_get C (pc := 9) dX5_holdsNothing_9 gf_X5_holdsNothing_14 0 rfl rfl ?_
        refine r_iload_n C (pc := 12) dX5_holdsNothing_12 rfl 1 rfl ?_
        refine r_iald C (pc := 13) dX5_holdsNothing_13 h 1 rfl (fun h => ?_)
        refine r_iconst C (pc := 14) dX5_holdsNothing_14 ?_
        refine r_icmp_ne C (pc := 15) 22 dX5_holdsNothing_15 rfl h (fun c15 h => ?_) (fun c15 h => ?_)
        · refine r_iconst C (pc := 22) dX5_holdsNothing_22 ?_
          refine r_sub [] rfl ?_
          exact hk23 0 h
        · refine r_sub [] rfl ?_
          exact hk18 h
theorem c_X5_holdsNothing (l : Launch) (G : gG) (a_this : Nat) (a_this_items : Nat) (a_this_sorts : Nat) (a_this_lengths : Nat) (c_this_sorts : Nat → Int) (p1 : Int) (r : Int) (hf : f_X5_holdsNothing p1 c_this_sorts = some r) : CTi l yX5_holdsNothing wsX5_holdsNothing rm_X5_holdsNothing G (w_X5_holdsNothing G a_this a_this_items a_this_sorts a_this_lengths c_this_sorts) [.ref a_this, .int (jz p1)] (jz r) (w_X5_holdsNothing G a_this a_this_items a_this_sorts a_this_lengths c_this_sorts) := CTi_of (by decide) rfl rfl (Nat.le_of_ble_eq_true rfl) (fun g C hG hl hF => by
    subst hG
    subst hl
    exact k_X5_holdsNothing C a_this a_this_items a_this_sorts a_this_lengths c_this_sorts p1 (fun x => x = r) (fun r' e => by cases e; exact hF) ⟨_, hf, rfl⟩)

-- TightHulls$Tapes.hasItem(II)Z
def f_X5_hasItem (p1 : Int) (p2 : Int) (c_this_sorts : Nat → Int) (c_this_lengths : Nat → Int) : Option Int := bd1 (f_X5_holdsNothing p1 c_this_sorts) (fun r2 => jn (fun (s0_27 : Int) => grd (isB s0_27) (some s0_27)) (fun (k27 : Int → Option Int) => jn (k27 0) (fun (k26 : Option Int) => if eqI r2 0 = true then (if ltI p2 0 = true then k26 else (grd (iin p1 6) (if ltI p2 (c_this_lengths (ix p1)) = true then (k27 1) else k26))) else k26)))
abbrev rm_X5_hasItem : Room := { frames := 2, cells := 0, slots := 0, locals := 42 }
abbrev w_X5_hasItem (G : gG) (a_this : Nat) (a_this_items : Nat) (a_this_sorts : Nat) (a_this_lengths : Nat) (c_this_sorts : Nat → Int) (c_this_lengths : Nat → Int) : va_W := [(a_this, .inr (5, [.ref a_this_items, .ref a_this_sorts, .ref a_this_lengths])), (a_this_sorts, aI G 6 c_this_sorts), (a_this_lengths, aI G 6 c_this_lengths)]
theorem hd_X5_hasItem : yX5_hasItem.cls = RX5 ∧ yX5_hasItem.cls ≠ "java/lang/invoke/MethodHandle" ∧ yX5_hasItem.cls ≠ "java/lang/invoke/VarHandle" ∧ (parseMethodDescriptor yX5_hasItem.desc).map (fun d => d.parameters.length) = some 2 := by decide +kernel
theorem in_X5_hasItem_X5 : ∀ w ∈ u_ws RX5 TX5 3, w ∈ wsX5_hasItem := fun w h => List.mem_cons_of_mem _ (List.mem_append_right _ (h))
theorem gf_X5_hasItem_18 : GF wsX5_hasItem RX5 18 5 2 := ⟨RX5, TX5, 3, rfl, in_X5_hasItem_X5, by decide, List.mem_of_getElem? (i := 1) rfl⟩
set_option maxRecDepth 100000 in
set_option maxHeartbeats 4000000 in
theorem k_X5_hasItem {g : XC} (C : XOk g cX5_hasItem RX5 wsX5_hasItem rm_X5_hasItem 3) (a_this : Nat) (a_this_items : Nat) (a_this_sorts : Nat) (a_this_lengths : Nat) (c_this_sorts : Nat → Int) (c_this_lengths : Nat → Int) (p1 : Int) (p2 : Int) (K : Int → Prop) (hK : ∀ (r : Int), K r → (narrow .boolean (.int (jz r)) = .int (jz r) → FinI g 0 0 (w_X5_hasItem (xG g) a_this a_this_items a_this_sorts a_this_lengths c_this_sorts c_this_lengths) (jz r))) (h : wp (f_X5_hasItem p1 p2 c_this_sorts c_this_lengths) K) : WW g 0 0 (w_X5_hasItem (xG g) a_this a_this_items a_this_sorts a_this_lengths c_this_sorts c_this_lengths) 0 [(0, .ref a_this), (1, .int (jz p1)), (2, .int (jz p2))] [] := by
  unfold f_X5_hasItem at h
  refine r_aload_n C (pc := 0) dX5_hasItem_0 rfl 0 rfl ?_
  refine r_iload_n C (pc := 1) dX5_hasItem_1 rfl 1 rfl ?_
  obtain ⟨r2, e2, h⟩ := wp_b1 h
  refine b_cVi C (pc := 2) dX5_hasItem_2 (c_X5_holdsNothing (xl g) (xG g) a_this a_this_items a_this_sorts a_this_lengths c_this_sorts p1 r2 e2) rfl gX5_hasItem_X5_holdsNothing ⟨rfl, rfl⟩ 1 hd_X5_holdsNothing ⟨Nat.le_of_ble_eq_true rfl, Nat.le_of_ble_eq_true rfl⟩ rfl 0 rfl rfl rfl [0, 1] rfl (srt_nd 0 rfl) (ws' := w_X5_hasItem (xG g) a_this a_this_items a_this_sorts a_this_lengths c_this_sorts c_this_lengths) (Put.m rfl rfl rfl) rfl (rest := []) rfl (Nat.le_of_ble_eq_true rfl) ⟨Nat.zero_le _, Nat.zero_le _⟩ ?_
  refine jn_e (fun (k27 : Int → Option Int) => ∀ (s0_27 : Int), wp (k27 s0_27) K → WW g 0 0 (w_X5_hasItem (xG g) a_this a_this_items a_this_sorts a_this_lengths c_this_sorts c_this_lengths) 27 [] [.int (jz s0_27)]) h (fun s0_27 h => ?_) (fun k27 hk27 h => ?_)
  · exact r_iret C (pc := 27) dX5_hasItem_27 (hK s0_27 (wp_s (wp_g h).2) (nB (wp_g h).1).1)
  · refine jn_e (fun (k26 : Option Int) => wp (k26) K → WW g 0 0 (w_X5_hasItem (xG g) a_this a_this_items a_this_sorts a_this_lengths c_this_sorts c_this_lengths) 26 [] []) h (fun h => ?_) (fun k26 hk26 h => ?_)
    · refine r_iconst C (pc := 26) dX5_hasItem_26 ?_
      exact hk27 0 h
    · refine r_if_ne C (pc := 5) 26 dX5_hasItem_5 rfl h (fun c5 h => ?_) (fun c5 h => ?_)
      · refine r_sub [] rfl ?_
        exact hk26 h
      · refine r_iload_n C (pc := 8) dX5_hasItem_8 rfl 2 rfl ?_
        refine r_if_lt C (pc := 9) 26 dX5_hasItem_9 rfl h (fun c9 h => ?_) (fun c9 h => ?_)
        · refine r_sub [] rfl ?_
          exact hk26 h
        · refine r_iload_n C (pc := 12) dX5_hasItem_12 rfl 2 rfl ?_
          refine r_aload_n C (pc := 13) dX5_hasItem_13 rfl 0 rfl ?_
          refine r_get C (pc := 14) dX5_hasItem_14 gf_X5_hasItem_18 0 rfl rfl ?_
          refine r_iload_n C (pc := 17) dX5_hasItem_17 rfl 1 rfl ?_
          refine r_iald C (pc := 18) dX5_hasItem_18 h 2 rfl (fun h => ?_)
          refine r_icmp_ge C (pc := 19) 26 dX5_hasItem_19 rfl h (fun c19 h => ?_) (fun c19 h => ?_)
          · refine r_sub [] rfl ?_
            exact hk26 h
          · refine r_iconst C (pc := 22) dX5_hasItem_22 ?_
            refine r_goto C (pc := 23) 27 dX5_hasItem_23 rfl ?_
            refine r_sub [] rfl ?_
            exact hk27 1 h
theorem c_X5_hasItem (l : Launch) (G : gG) (a_this : Nat) (a_this_items : Nat) (a_this_sorts : Nat) (a_this_lengths : Nat) (c_this_sorts : Nat → Int) (c_this_lengths : Nat → Int) (p1 : Int) (p2 : Int) (r : Int) (hf : f_X5_hasItem p1 p2 c_this_sorts c_this_lengths = some r) : CTi l yX5_hasItem wsX5_hasItem rm_X5_hasItem G (w_X5_hasItem G a_this a_this_items a_this_sorts a_this_lengths c_this_sorts c_this_lengths) [.ref a_this, .int (jz p1), .int (jz p2)] (jz r) (w_X5_hasItem G a_this a_this_items a_this_sorts a_this_lengths c_this_sorts c_this_lengths) := CTi_of (by decide) rfl rfl (Nat.le_of_ble_eq_true rfl) (fun g C hG hl hF => by
    subst hG
    subst hl
    exact k_X5_hasItem C a_this a_this_items a_this_sorts a_this_lengths c_this_sorts c_this_lengths p1 p2 (fun x => x = r) (fun r' e => by cases e; exact hF) ⟨_, hf, rfl⟩)

-- TightHulls$Tapes.hasRun(III)Z
def f_X5_hasRun (p1 : Int) (p2 : Int) (p3 : Int) (c_this_sorts : Nat → Int) (c_this_lengths : Nat → Int) : Option Int := bd1 (f_X5_holdsNothing p1 c_this_sorts) (fun r2 => jn (some 0) (fun (k16 : Option Int) => if eqI r2 0 = true then (if ltI p3 0 = true then k16 else (if ltI p2 0 = true then k16 else (grd (iin p1 6) (jn (fun (s0_45 : Int) => grd (isB s0_45) (some s0_45)) (fun (k45 : Int → Option Int) => jn (k45 0) (fun (k44 : Option Int) => if ltI (c_this_lengths (ix p1)) p3 = true then k44 else (grd (iin p1 6) (if ltI ((c_this_lengths (ix p1)) - p3) p2 = true then k44 else (k45 1))))))))) else k16))
abbrev rm_X5_hasRun : Room := { frames := 2, cells := 0, slots := 0, locals := 42 }
abbrev w_X5_hasRun (G : gG) (a_this : Nat) (a_this_items : Nat) (a_this_sorts : Nat) (a_this_lengths : Nat) (c_this_sorts : Nat → Int) (c_this_lengths : Nat → Int) : va_W := [(a_this, .inr (5, [.ref a_this_items, .ref a_this_sorts, .ref a_this_lengths])), (a_this_sorts, aI G 6 c_this_sorts), (a_this_lengths, aI G 6 c_this_lengths)]
theorem hd_X5_hasRun : yX5_hasRun.cls = RX5 ∧ yX5_hasRun.cls ≠ "java/lang/invoke/MethodHandle" ∧ yX5_hasRun.cls ≠ "java/lang/invoke/VarHandle" ∧ (parseMethodDescriptor yX5_hasRun.desc).map (fun d => d.parameters.length) = some 3 := by decide +kernel
theorem in_X5_hasRun_X5 : ∀ w ∈ u_ws RX5 TX5 3, w ∈ wsX5_hasRun := fun w h => List.mem_cons_of_mem _ (List.mem_append_right _ (h))
theorem gf_X5_hasRun_18 : GF wsX5_hasRun RX5 18 5 2 := ⟨RX5, TX5, 3, rfl, in_X5_hasRun_X5, by decide, List.mem_of_getElem? (i := 1) rfl⟩
set_option maxRecDepth 100000 in
set_option maxHeartbeats 4000000 in
theorem k_X5_hasRun {g : XC} (C : XOk g cX5_hasRun RX5 wsX5_hasRun rm_X5_hasRun 4) (a_this : Nat) (a_this_items : Nat) (a_this_sorts : Nat) (a_this_lengths : Nat) (c_this_sorts : Nat → Int) (c_this_lengths : Nat → Int) (p1 : Int) (p2 : Int) (p3 : Int) (K : Int → Prop) (hK : ∀ (r : Int), K r → (narrow .boolean (.int (jz r)) = .int (jz r) → FinI g 0 0 (w_X5_hasRun (xG g) a_this a_this_items a_this_sorts a_this_lengths c_this_sorts c_this_lengths) (jz r))) (h : wp (f_X5_hasRun p1 p2 p3 c_this_sorts c_this_lengths) K) : WW g 0 0 (w_X5_hasRun (xG g) a_this a_this_items a_this_sorts a_this_lengths c_this_sorts c_this_lengths) 0 [(0, .ref a_this), (1, .int (jz p1)), (2, .int (jz p2)), (3, .int (jz p3))] [] := by
  unfold f_X5_hasRun at h
  refine r_aload_n C (pc := 0) dX5_hasRun_0 rfl 0 rfl ?_
  refine r_iload_n C (pc := 1) dX5_hasRun_1 rfl 1 rfl ?_
  obtain ⟨r2, e2, h⟩ := wp_b1 h
  refine b_cVi C (pc := 2) dX5_hasRun_2 (c_X5_holdsNothing (xl g) (xG g) a_this a_this_items a_this_sorts a_this_lengths c_this_sorts p1 r2 e2) rfl gX5_hasRun_X5_holdsNothing ⟨rfl, rfl⟩ 1 hd_X5_holdsNothing ⟨Nat.le_of_ble_eq_true rfl, Nat.le_of_ble_eq_true rfl⟩ rfl 0 rfl rfl rfl [0, 1] rfl (srt_nd 0 rfl) (ws' := w_X5_hasRun (xG g) a_this a_this_items a_this_sorts a_this_lengths c_this_sorts c_this_lengths) (Put.m rfl rfl rfl) rfl (rest := []) rfl (Nat.le_of_ble_eq_true rfl) ⟨Nat.zero_le _, Nat.zero_le _⟩ ?_
  refine jn_e (fun (k16 : Option Int) => wp (k16) K → WW g 0 0 (w_X5_hasRun (xG g) a_this a_this_items a_this_sorts a_this_lengths c_this_sorts c_this_lengths) 16 [] []) h (fun h => ?_) (fun k16 hk16 h => ?_)
  · refine r_iconst C (pc := 16) dX5_hasRun_16 ?_
    exact r_iret C (pc := 17) dX5_hasRun_17 (hK 0 (wp_s h) (nB rfl).1)
  · refine r_if_ne C (pc := 5) 16 dX5_hasRun_5 rfl h (fun c5 h => ?_) (fun c5 h => ?_)
    · refine r_sub [] rfl ?_
      exact hk16 h
    · refine r_iload_n C (pc := 8) dX5_hasRun_8 rfl 3 rfl ?_
      refine r_if_lt C (pc := 9) 16 dX5_hasRun_9 rfl h (fun c9 h => ?_) (fun c9 h => ?_)
      · refine r_sub [] rfl ?_
        exact hk16 h
      · refine r_iload_n C (pc := 12) dX5_hasRun_12 rfl 2 rfl ?_
        refine r_if_ge C (pc := 13) 18 dX5_hasRun_13 rfl h (fun c13 h => ?_) (fun c13 h => ?_)
        · refine r_iload_n C (pc := 18) dX5_hasRun_18 rfl 3 rfl ?_
          refine r_aload_n C (pc := 19) dX5_hasRun_19 rfl 0 rfl ?_
          refine r_get C (pc := 20) dX5_hasRun_20 gf_X5_hasRun_18 0 rfl rfl ?_
          refine r_iload_n C (pc := 23) dX5_hasRun_23 rfl 1 rfl ?_
          refine r_iald C (pc := 24) dX5_hasRun_24 h 2 rfl (fun h => ?_)
          refine jn_e (fun (k45 : Int → Option Int) => ∀ (s0_45 : Int), wp (k45 s0_45) K → WW g 0 0 (w_X5_hasRun (xG g) a_this a_this_items a_this_sorts a_this_lengths c_this_sorts c_this_lengths) 45 [] [.int (jz s0_45)]) h (fun s0_45 h => ?_) (fun k45 hk45 h => ?_)
          · exact r_iret C (pc := 45) dX5_hasRun_45 (hK s0_45 (wp_s (wp_g h).2) (nB (wp_g h).1).1)
          · refine jn_e (fun (k44 : Option Int) => wp (k44) K → WW g 0 0 (w_X5_hasRun (xG g) a_this a_this_items a_this_sorts a_this_lengths c_this_sorts c_this_lengths) 44 [] []) h (fun h => ?_) (fun k44 hk44 h => ?_)
            · refine r_iconst C (pc := 44) dX5_hasRun_44 ?_
              exact hk45 0 h
            · refine r_icmp_gt C (pc := 25) 44 dX5_hasRun_25 rfl h (fun c25 h => ?_) (fun c25 h => ?_)
              · refine r_sub [] rfl ?_
                exact hk44 h
              · refine r_iload_n C (pc := 28) dX5_hasRun_28 rfl 2 rfl ?_
                refine r_aload_n C (pc := 29) dX5_hasRun_29 rfl 0 rfl ?_
                refine r_get C (pc := 30) dX5_hasRun_30 gf_X5_hasRun_18 0 rfl rfl ?_
                refine r_iload_n C (pc := 33) dX5_hasRun_33 rfl 1 rfl ?_
                refine r_iald C (pc := 34) dX5_hasRun_34 h 2 rfl (fun h => ?_)
                refine r_iload_n C (pc := 35) dX5_hasRun_35 rfl 3 rfl ?_
                refine r_isub C (pc := 36) dX5_hasRun_36 ?_
                refine r_icmp_gt C (pc := 37) 44 dX5_hasRun_37 rfl h (fun c37 h => ?_) (fun c37 h => ?_)
                · refine r_sub [] rfl ?_
                  exact hk44 h
                · refine r_iconst C (pc := 40) dX5_hasRun_40 ?_
                  refine r_goto C (pc := 41) 45 dX5_hasRun_41 rfl ?_
                  refine r_sub [] rfl ?_
                  exact hk45 1 h
        · refine r_sub [] rfl ?_
          exact hk16 h
theorem c_X5_hasRun (l : Launch) (G : gG) (a_this : Nat) (a_this_items : Nat) (a_this_sorts : Nat) (a_this_lengths : Nat) (c_this_sorts : Nat → Int) (c_this_lengths : Nat → Int) (p1 : Int) (p2 : Int) (p3 : Int) (r : Int) (hf : f_X5_hasRun p1 p2 p3 c_this_sorts c_this_lengths = some r) : CTi l yX5_hasRun wsX5_hasRun rm_X5_hasRun G (w_X5_hasRun G a_this a_this_items a_this_sorts a_this_lengths c_this_sorts c_this_lengths) [.ref a_this, .int (jz p1), .int (jz p2), .int (jz p3)] (jz r) (w_X5_hasRun G a_this a_this_items a_this_sorts a_this_lengths c_this_sorts c_this_lengths) := CTi_of (by decide) rfl rfl (Nat.le_of_ble_eq_true rfl) (fun g C hG hl hF => by
    subst hG
    subst hl
    exact k_X5_hasRun C a_this a_this_items a_this_sorts a_this_lengths c_this_sorts c_this_lengths p1 p2 p3 (fun x => x = r) (fun r' e => by cases e; exact hF) ⟨_, hf, rfl⟩)

-- TightHulls$Tapes.lay(III)I
def f_X5_lay (p1 : Int) (p2 : Int) (p3 : Int) (c_this_items_r : Nat → Nat → Int64) (c_this_sorts : Nat → Int) (c_this_lengths : Nat → Int) : Option (Int × (Nat → Nat → Int64) × (Nat → Int) × (Nat → Int)) := grd (iin p1 6) (grd (iin p1 6) (lq2 (fun (n17 : Int → (Nat → Nat → Int64) → Option (Int × (Nat → Nat → Int64) × (Nat → Int) × (Nat → Int))) (v4_17 : Int) (this_items_r_17 : Nat → Nat → Int64) => if ltI v4_17 60 = true then (grd (iin p1 6) (lv ((0 : Int64)) (fun x33 => grd (iin v4_17 60) (n17 (v4_17 + 1) (up this_items_r_17 (ix p1) (up (this_items_r_17 (ix p1)) (ix v4_17) x33)))))) else (some (1, this_items_r_17, (up c_this_sorts (ix p1) p2), (up c_this_lengths (ix p1) p3)))) 300 0 c_this_items_r))
abbrev rm_X5_lay : Room := { frames := 0, cells := 0, slots := 0, locals := 0 }
abbrev w_X5_lay (G : gG) (a_this : Nat) (a_this_items : Nat) (a_this_sorts : Nat) (a_this_lengths : Nat) (w_this_items : Nat → Nat) (c_this_items_r : Nat → Nat → Int64) (c_this_sorts : Nat → Int) (c_this_lengths : Nat → Int) : va_W := [(a_this, .inr (5, [.ref a_this_items, .ref a_this_sorts, .ref a_this_lengths])), (a_this_items, aL G 6 w_this_items), (w_this_items 0, aJ G 60 (c_this_items_r 0)), (w_this_items 1, aJ G 60 (c_this_items_r 1)), (w_this_items 2, aJ G 60 (c_this_items_r 2)), (w_this_items 3, aJ G 60 (c_this_items_r 3)), (w_this_items 4, aJ G 60 (c_this_items_r 4)), (w_this_items 5, aJ G 60 (c_this_items_r 5)), (a_this_sorts, aI G 6 c_this_sorts), (a_this_lengths, aI G 6 c_this_lengths)]
theorem hd_X5_lay : yX5_lay.cls = RX5 ∧ yX5_lay.cls ≠ "java/lang/invoke/MethodHandle" ∧ yX5_lay.cls ≠ "java/lang/invoke/VarHandle" ∧ (parseMethodDescriptor yX5_lay.desc).map (fun d => d.parameters.length) = some 3 := by decide +kernel
theorem wg_X5_lay (G : gG) (a_this : Nat) (a_this_items : Nat) (a_this_sorts : Nat) (a_this_lengths : Nat) (w_this_items : Nat → Nat) (c_this_items_r : Nat → Nat → Int64) (c_this_sorts : Nat → Int) (c_this_lengths : Nat → Int) {t : Nat} (h : t < 6) : (w_X5_lay G a_this a_this_items a_this_sorts a_this_lengths w_this_items c_this_items_r c_this_sorts c_this_lengths)[2 + t]? = some (w_this_items t, aJ G 60 (c_this_items_r t)) := by
  match t, h with
  | 0, _ => rfl
  | 1, _ => rfl
  | 2, _ => rfl
  | 3, _ => rfl
  | 4, _ => rfl
  | 5, _ => rfl
theorem wu_X5_lay (G : gG) (a_this : Nat) (a_this_items : Nat) (a_this_sorts : Nat) (a_this_lengths : Nat) (w_this_items : Nat → Nat) (c_this_items_r : Nat → Nat → Int64) (c_this_sorts : Nat → Int) (c_this_lengths : Nat → Int) {t : Nat} (h : t < 6) (f : Nat → Int64) : (w_X5_lay G a_this a_this_items a_this_sorts a_this_lengths w_this_items c_this_items_r c_this_sorts c_this_lengths).set (2 + t) (w_this_items t, aJ G 60 f) = w_X5_lay G a_this a_this_items a_this_sorts a_this_lengths w_this_items (up c_this_items_r t f) c_this_sorts c_this_lengths := by
  match t, h with
  | 0, _ => rfl
  | 1, _ => rfl
  | 2, _ => rfl
  | 3, _ => rfl
  | 4, _ => rfl
  | 5, _ => rfl
theorem in_X5_lay_X5 : ∀ w ∈ u_ws RX5 TX5 3, w ∈ wsX5_lay := fun w h => List.mem_cons_of_mem _ (List.mem_append_right _ (h))
theorem gf_X5_lay_14 : GF wsX5_lay RX5 14 5 1 := ⟨RX5, TX5, 3, rfl, in_X5_lay_X5, by decide, List.mem_of_getElem? (i := 1) rfl⟩
theorem gf_X5_lay_18 : GF wsX5_lay RX5 18 5 2 := ⟨RX5, TX5, 3, rfl, in_X5_lay_X5, by decide, List.mem_of_getElem? (i := 2) rfl⟩
theorem gf_X5_lay_11 : GF wsX5_lay RX5 11 5 0 := ⟨RX5, TX5, 3, rfl, in_X5_lay_X5, by decide, List.mem_of_getElem? (i := 3) rfl⟩
set_option maxRecDepth 100000 in
set_option maxHeartbeats 4000000 in
theorem k_X5_lay {g : XC} (C : XOk g cX5_lay RX5 wsX5_lay rm_X5_lay 5) (a_this : Nat) (a_this_items : Nat) (a_this_sorts : Nat) (a_this_lengths : Nat) (w_this_items : Nat → Nat) (c_this_items_r : Nat → Nat → Int64) (c_this_sorts : Nat → Int) (c_this_lengths : Nat → Int) (p1 : Int) (p2 : Int) (p3 : Int) (K : (Int × (Nat → Nat → Int64) × (Nat → Int) × (Nat → Int)) → Prop) (hK : ∀ (r : Int) (o0 : Nat → Nat → Int64) (o1 : Nat → Int) (o2 : Nat → Int), K (r, o0, o1, o2) → (narrow .int (.int (jz r)) = .int (jz r) → FinI g 0 0 (w_X5_lay (xG g) a_this a_this_items a_this_sorts a_this_lengths w_this_items o0 o1 o2) (jz r))) (h : wp (f_X5_lay p1 p2 p3 c_this_items_r c_this_sorts c_this_lengths) K) : WW g 0 0 (w_X5_lay (xG g) a_this a_this_items a_this_sorts a_this_lengths w_this_items c_this_items_r c_this_sorts c_this_lengths) 0 [(0, .ref a_this), (1, .int (jz p1)), (2, .int (jz p2)), (3, .int (jz p3))] [] := by
  unfold f_X5_lay at h
  refine r_aload_n C (pc := 0) dX5_lay_0 rfl 0 rfl ?_
  refine r_get C (pc := 1) dX5_lay_1 gf_X5_lay_14 0 rfl rfl ?_
  refine r_iload_n C (pc := 4) dX5_lay_4 rfl 1 rfl ?_
  refine r_iload_n C (pc := 5) dX5_lay_5 rfl 2 rfl ?_
  refine r_iast C (pc := 6) dX5_lay_6 h 8 rfl (ws' := w_X5_lay (xG g) a_this a_this_items a_this_sorts a_this_lengths w_this_items c_this_items_r (up c_this_sorts (ix p1) p2) c_this_lengths) rfl (fun h => ?_)
  refine r_aload_n C (pc := 7) dX5_lay_7 rfl 0 rfl ?_
  refine r_get C (pc := 8) dX5_lay_8 gf_X5_lay_18 0 rfl rfl ?_
  refine r_iload_n C (pc := 11) dX5_lay_11 rfl 1 rfl ?_
  refine r_iload_n C (pc := 12) dX5_lay_12 rfl 3 rfl ?_
  refine r_iast C (pc := 13) dX5_lay_13 h 9 rfl (ws' := w_X5_lay (xG g) a_this a_this_items a_this_sorts a_this_lengths w_this_items c_this_items_r (up c_this_sorts (ix p1) p2) (up c_this_lengths (ix p1) p3)) rfl (fun h => ?_)
  refine r_iconst C (pc := 14) dX5_lay_14 ?_
  refine r_istore C (pc := 15) dX5_lay_15 (by decide) (L' := [(0, .ref a_this), (1, .int (jz p1)), (2, .int (jz p2)), (3, .int (jz p3)), (4, .int (jz 0))]) rfl ?_
  refine r_sub [0, 1, 4] rfl ?_
  refine lq2_e (fun (v4_17 : Int) (this_items_r_17 : Nat → Nat → Int64) => WW g 0 0 (w_X5_lay (xG g) a_this a_this_items a_this_sorts a_this_lengths w_this_items this_items_r_17 (up c_this_sorts (ix p1) p2) (up c_this_lengths (ix p1) p3)) 17 [(0, .ref a_this), (1, .int (jz p1)), (4, .int (jz v4_17))] []) h (fun n17 hn17 v4_17 this_items_r_17 h => ?_)
  refine r_iload C (pc := 17) dX5_lay_17 2 rfl ?_
  refine r_bipush C (pc := 19) dX5_lay_19 rfl ?_
  refine r_icmp_ge C (pc := 21) 40 dX5_lay_21 rfl h (fun c21 h => ?_) (fun c21 h => ?_)
  · refine r_iconst C (pc := 40) dX5_lay_40 ?_
    exact r_iret C (pc := 41) dX5_lay_41 (hK 1 this_items_r_17 (up c_this_sorts (ix p1) p2) (up c_this_lengths (ix p1) p3) (wp_s h) rfl)
  · refine r_aload_n C (pc := 24) dX5_lay_24 rfl 0 rfl ?_
    refine r_get C (pc := 25) dX5_lay_25 gf_X5_lay_11 0 rfl rfl ?_
    refine r_iload_n C (pc := 28) dX5_lay_28 rfl 1 rfl ?_
    refine r_aald C (pc := 29) dX5_lay_29 h 1 rfl (fun hi29 h => ?_)
    refine r_iload C (pc := 30) dX5_lay_30 2 rfl ?_
    refine r_lconst C (pc := 32) dX5_lay_32 rfl ?_
    refine r_letl h (fun x33 h => ?_)
    refine r_last C (pc := 33) dX5_lay_33 h (2 + ix p1) (wg_X5_lay (xG g) a_this a_this_items a_this_sorts a_this_lengths w_this_items this_items_r_17 (up c_this_sorts (ix p1) p2) (up c_this_lengths (ix p1) p3) (tp_lt hi29)) (ws' := w_X5_lay (xG g) a_this a_this_items a_this_sorts a_this_lengths w_this_items (up this_items_r_17 (ix p1) (up (this_items_r_17 (ix p1)) (ix v4_17) x33)) (up c_this_sorts (ix p1) p2) (up c_this_lengths (ix p1) p3)) (wu_X5_lay (xG g) a_this a_this_items a_this_sorts a_this_lengths w_this_items this_items_r_17 (up c_this_sorts (ix p1) p2) (up c_this_lengths (ix p1) p3) (tp_lt hi29) _) (fun h => ?_)
    refine r_iinc C (pc := 34) dX5_lay_34 2 rfl (by decide) (L' := [(0, .ref a_this), (1, .int (jz p1)), (4, .int (jz (v4_17 + 1)))]) rfl ?_
    refine r_goto C (pc := 37) 17 dX5_lay_37 rfl ?_
    exact hn17 (v4_17 + 1) (up this_items_r_17 (ix p1) (up (this_items_r_17 (ix p1)) (ix v4_17) x33)) h
theorem c_X5_lay (l : Launch) (G : gG) (a_this : Nat) (a_this_items : Nat) (a_this_sorts : Nat) (a_this_lengths : Nat) (w_this_items : Nat → Nat) (c_this_items_r : Nat → Nat → Int64) (c_this_sorts : Nat → Int) (c_this_lengths : Nat → Int) (p1 : Int) (p2 : Int) (p3 : Int) (r : Int) (o0 : Nat → Nat → Int64) (o1 : Nat → Int) (o2 : Nat → Int) (hf : f_X5_lay p1 p2 p3 c_this_items_r c_this_sorts c_this_lengths = some (r, o0, o1, o2)) : CTi l yX5_lay wsX5_lay rm_X5_lay G (w_X5_lay G a_this a_this_items a_this_sorts a_this_lengths w_this_items c_this_items_r c_this_sorts c_this_lengths) [.ref a_this, .int (jz p1), .int (jz p2), .int (jz p3)] (jz r) (w_X5_lay G a_this a_this_items a_this_sorts a_this_lengths w_this_items o0 o1 o2) := CTi_of (by decide) rfl rfl (Nat.le_of_ble_eq_true rfl) (fun g C hG hl hF => by
    subst hG
    subst hl
    exact k_X5_lay C a_this a_this_items a_this_sorts a_this_lengths w_this_items c_this_items_r c_this_sorts c_this_lengths p1 p2 p3 (fun x => x = (r, o0, o1, o2)) (fun r' o0' o1' o2' e => by cases e; exact hF) ⟨_, hf, rfl⟩)

-- TightHulls$Tapes.lowestBits(IJ)J
def f_X5_lowestBits (p1 : Int) (p2 : Int64) : Option Int64 := if eqI p1 0 = true then (some (i2lI (byI (l2iI p2)))) else (if eqI p1 1 = true then (some (i2lI (shI (l2iI p2)))) else (if eqI p1 2 = true then (some (i2lI (l2iI p2))) else (if eqI p1 3 = true then (some p2) else (if eqI p1 4 = true then (jn (fun (s0_61 : Int64) => some s0_61) (fun (k61 : Int64 → Option Int64) => if eqI (lcmI p2 (0 : Int64)) 0 = true then (k61 (0 : Int64)) else (k61 (1 : Int64)))) else (some p2)))))
abbrev rm_X5_lowestBits : Room := { frames := 0, cells := 0, slots := 0, locals := 0 }
abbrev w_X5_lowestBits (G : gG)  : va_W := []
theorem hd_X5_lowestBits : yX5_lowestBits.cls ≠ "java/lang/invoke/MethodHandle" ∧ yX5_lowestBits.cls ≠ "java/lang/invoke/VarHandle" ∧ (parseMethodDescriptor yX5_lowestBits.desc).map (fun d => d.parameters.length) = some 2 := by decide +kernel
set_option maxRecDepth 100000 in
set_option maxHeartbeats 4000000 in
theorem k_X5_lowestBits {g : XC} (C : XOk g cX5_lowestBits RX5 wsX5_lowestBits rm_X5_lowestBits 3)  (p1 : Int) (p2 : Int64) (K : Int64 → Prop) (hK : ∀ (r : Int64), K r → FinL g 0 0 (w_X5_lowestBits (xG g)) r) (h : wp (f_X5_lowestBits p1 p2) K) : WW g 0 0 (w_X5_lowestBits (xG g)) 0 [(0, .int (jz p1)), (1, .long p2)] [] := by
  unfold f_X5_lowestBits at h
  refine r_iload_n C (pc := 0) dX5_lowestBits_0 rfl 0 rfl ?_
  refine sw1 h (fun b1_0 h => ?_) (fun b1_0 h => ?_)
  · refine r_tableIn C (pc := 1) 36 dX5_lowestBits_1 0 (35) b1_0 (by decide) (by decide) (by decide +kernel) rfl ?_
    refine r_lload_n C (pc := 36) dX5_lowestBits_36 rfl 1 rfl ?_
    refine r_l2i C (pc := 37) dX5_lowestBits_37 ?_
    refine r_i2b C (pc := 38) dX5_lowestBits_38 ?_
    refine r_i2l C (pc := 39) dX5_lowestBits_39 ?_
    exact r_lret C (pc := 40) dX5_lowestBits_40 (hK (i2lI (byI (l2iI p2))) (wp_s h))
  · refine sw1 h (fun b1_1 h => ?_) (fun b1_1 h => ?_)
    · refine r_tableIn C (pc := 1) 41 dX5_lowestBits_1 1 (40) b1_1 (by decide) (by decide) (by decide +kernel) rfl ?_
      refine r_lload_n C (pc := 41) dX5_lowestBits_41 rfl 1 rfl ?_
      refine r_l2i C (pc := 42) dX5_lowestBits_42 ?_
      refine r_i2s C (pc := 43) dX5_lowestBits_43 ?_
      refine r_i2l C (pc := 44) dX5_lowestBits_44 ?_
      exact r_lret C (pc := 45) dX5_lowestBits_45 (hK (i2lI (shI (l2iI p2))) (wp_s h))
    · refine sw1 h (fun b1_2 h => ?_) (fun b1_2 h => ?_)
      · refine r_tableIn C (pc := 1) 46 dX5_lowestBits_1 2 (45) b1_2 (by decide) (by decide) (by decide +kernel) rfl ?_
        refine r_lload_n C (pc := 46) dX5_lowestBits_46 rfl 1 rfl ?_
        refine r_l2i C (pc := 47) dX5_lowestBits_47 ?_
        refine r_i2l C (pc := 48) dX5_lowestBits_48 ?_
        exact r_lret C (pc := 49) dX5_lowestBits_49 (hK (i2lI (l2iI p2)) (wp_s h))
      · refine sw1 h (fun b1_3 h => ?_) (fun b1_3 h => ?_)
        · refine r_tableIn C (pc := 1) 62 dX5_lowestBits_1 3 (61) b1_3 (by decide) (by decide) (by decide +kernel) rfl ?_
          refine r_lload_n C (pc := 62) dX5_lowestBits_62 rfl 1 rfl ?_
          exact r_lret C (pc := 63) dX5_lowestBits_63 (hK p2 (wp_s h))
        · refine sw1 h (fun b1_4 h => ?_) (fun b1_4 h => ?_)
          · refine r_tableIn C (pc := 1) 50 dX5_lowestBits_1 4 (49) b1_4 (by decide) (by decide) (by decide +kernel) rfl ?_
            refine r_lload_n C (pc := 50) dX5_lowestBits_50 rfl 1 rfl ?_
            refine r_lconst C (pc := 51) dX5_lowestBits_51 rfl ?_
            refine r_lcmp C (pc := 52) dX5_lowestBits_52 ?_
            refine jn_e (fun (k61 : Int64 → Option Int64) => ∀ (s0_61 : Int64), wp (k61 s0_61) K → WW g 0 0 (w_X5_lowestBits (xG g)) 61 [] [.long s0_61]) h (fun s0_61 h => ?_) (fun k61 hk61 h => ?_)
            · exact r_lret C (pc := 61) dX5_lowestBits_61 (hK s0_61 (wp_s h))
            · refine r_if_eq C (pc := 53) 60 dX5_lowestBits_53 rfl h (fun c53 h => ?_) (fun c53 h => ?_)
              · refine r_lconst C (pc := 60) dX5_lowestBits_60 rfl ?_
                refine r_sub [] rfl ?_
                exact hk61 (0 : Int64) h
              · refine r_lconst C (pc := 56) dX5_lowestBits_56 rfl ?_
                refine r_goto C (pc := 57) 61 dX5_lowestBits_57 rfl ?_
                refine r_sub [] rfl ?_
                exact hk61 (1 : Int64) h
          · refine r_tableOut C (pc := 1) 62 dX5_lowestBits_1 (by have q := sw_out (a := p1) (lo := 0) 5 (by decide) (by decide) (by intro i hi; match i, hi with | 0, _ => exact b1_0 | 1, _ => exact b1_1 | 2, _ => exact b1_2 | 3, _ => exact b1_3 | 4, _ => exact b1_4); omega) rfl ?_
            refine r_lload_n C (pc := 62) dX5_lowestBits_62 rfl 1 rfl ?_
            exact r_lret C (pc := 63) dX5_lowestBits_63 (hK p2 (wp_s h))
theorem c_X5_lowestBits (l : Launch) (G : gG) (p1 : Int) (p2 : Int64) (r : Int64) (hf : f_X5_lowestBits p1 p2 = some r) : CTl l yX5_lowestBits wsX5_lowestBits rm_X5_lowestBits G (w_X5_lowestBits G) [.int (jz p1), .long p2] r (w_X5_lowestBits G) := CTl_of (by decide) rfl rfl (Nat.le_of_ble_eq_true rfl) (fun g C hG hl hF => by
    subst hG
    subst hl
    exact k_X5_lowestBits C p1 p2 (fun x => x = r) (fun r' e => by cases e; exact hF) ⟨_, hf, rfl⟩)

-- TightHulls$Tapes.change(IIJ)Z
def f_X5_change (p1 : Int) (p2 : Int) (p3 : Int64) (c_this_items_r : Nat → Nat → Int64) (c_this_sorts : Nat → Int) (c_this_lengths : Nat → Int) : Option (Int × (Nat → Nat → Int64)) := bd1 (f_X5_hasItem p1 p2 c_this_sorts c_this_lengths) (fun r3 => if eqI r3 0 = true then (some (0, c_this_items_r)) else (grd (iin p1 6) (grd (iin p1 6) (bd1 (f_X5_lowestBits (c_this_sorts (ix p1)) p3) (fun r25 => grd (iin p2 60) (some (1, (up c_this_items_r (ix p1) (up (c_this_items_r (ix p1)) (ix p2) r25)))))))))
abbrev rm_X5_change : Room := { frames := 3, cells := 0, slots := 0, locals := 64 }
abbrev w_X5_change (G : gG) (a_this : Nat) (a_this_items : Nat) (a_this_sorts : Nat) (a_this_lengths : Nat) (w_this_items : Nat → Nat) (c_this_items_r : Nat → Nat → Int64) (c_this_sorts : Nat → Int) (c_this_lengths : Nat → Int) : va_W := [(a_this, .inr (5, [.ref a_this_items, .ref a_this_sorts, .ref a_this_lengths])), (a_this_items, aL G 6 w_this_items), (w_this_items 0, aJ G 60 (c_this_items_r 0)), (w_this_items 1, aJ G 60 (c_this_items_r 1)), (w_this_items 2, aJ G 60 (c_this_items_r 2)), (w_this_items 3, aJ G 60 (c_this_items_r 3)), (w_this_items 4, aJ G 60 (c_this_items_r 4)), (w_this_items 5, aJ G 60 (c_this_items_r 5)), (a_this_sorts, aI G 6 c_this_sorts), (a_this_lengths, aI G 6 c_this_lengths)]
theorem hd_X5_change : yX5_change.cls = RX5 ∧ yX5_change.cls ≠ "java/lang/invoke/MethodHandle" ∧ yX5_change.cls ≠ "java/lang/invoke/VarHandle" ∧ (parseMethodDescriptor yX5_change.desc).map (fun d => d.parameters.length) = some 3 := by decide +kernel
theorem wg_X5_change (G : gG) (a_this : Nat) (a_this_items : Nat) (a_this_sorts : Nat) (a_this_lengths : Nat) (w_this_items : Nat → Nat) (c_this_items_r : Nat → Nat → Int64) (c_this_sorts : Nat → Int) (c_this_lengths : Nat → Int) {t : Nat} (h : t < 6) : (w_X5_change G a_this a_this_items a_this_sorts a_this_lengths w_this_items c_this_items_r c_this_sorts c_this_lengths)[2 + t]? = some (w_this_items t, aJ G 60 (c_this_items_r t)) := by
  match t, h with
  | 0, _ => rfl
  | 1, _ => rfl
  | 2, _ => rfl
  | 3, _ => rfl
  | 4, _ => rfl
  | 5, _ => rfl
theorem wu_X5_change (G : gG) (a_this : Nat) (a_this_items : Nat) (a_this_sorts : Nat) (a_this_lengths : Nat) (w_this_items : Nat → Nat) (c_this_items_r : Nat → Nat → Int64) (c_this_sorts : Nat → Int) (c_this_lengths : Nat → Int) {t : Nat} (h : t < 6) (f : Nat → Int64) : (w_X5_change G a_this a_this_items a_this_sorts a_this_lengths w_this_items c_this_items_r c_this_sorts c_this_lengths).set (2 + t) (w_this_items t, aJ G 60 f) = w_X5_change G a_this a_this_items a_this_sorts a_this_lengths w_this_items (up c_this_items_r t f) c_this_sorts c_this_lengths := by
  match t, h with
  | 0, _ => rfl
  | 1, _ => rfl
  | 2, _ => rfl
  | 3, _ => rfl
  | 4, _ => rfl
  | 5, _ => rfl
theorem in_X5_change_X5 : ∀ w ∈ u_ws RX5 TX5 3, w ∈ wsX5_change := fun w h => List.mem_cons_of_mem _ (List.mem_append_right _ (h))
theorem gf_X5_change_11 : GF wsX5_change RX5 11 5 0 := ⟨RX5, TX5, 3, rfl, in_X5_change_X5, by decide, List.mem_of_getElem? (i := 1) rfl⟩
theorem gf_X5_change_14 : GF wsX5_change RX5 14 5 1 := ⟨RX5, TX5, 3, rfl, in_X5_change_X5, by decide, List.mem_of_getElem? (i := 2) rfl⟩
set_option maxRecDepth 100000 in
set_option maxHeartbeats 4000000 in
theorem k_X5_change {g : XC} (C : XOk g cX5_change RX5 wsX5_change rm_X5_change 5) (a_this : Nat) (a_this_items : Nat) (a_this_sorts : Nat) (a_this_lengths : Nat) (w_this_items : Nat → Nat) (c_this_items_r : Nat → Nat → Int64) (c_this_sorts : Nat → Int) (c_this_lengths : Nat → Int) (p1 : Int) (p2 : Int) (p3 : Int64) (K : (Int × (Nat → Nat → Int64)) → Prop) (hK : ∀ (r : Int) (o0 : Nat → Nat → Int64), K (r, o0) → (narrow .boolean (.int (jz r)) = .int (jz r) → FinI g 0 0 (w_X5_change (xG g) a_this a_this_items a_this_sorts a_this_lengths w_this_items o0 c_this_sorts c_this_lengths) (jz r))) (h : wp (f_X5_change p1 p2 p3 c_this_items_r c_this_sorts c_this_lengths) K) : WW g 0 0 (w_X5_change (xG g) a_this a_this_items a_this_sorts a_this_lengths w_this_items c_this_items_r c_this_sorts c_this_lengths) 0 [(0, .ref a_this), (1, .int (jz p1)), (2, .int (jz p2)), (3, .long p3)] [] := by
  unfold f_X5_change at h
  refine r_aload_n C (pc := 0) dX5_change_0 rfl 0 rfl ?_
  refine r_iload_n C (pc := 1) dX5_change_1 rfl 1 rfl ?_
  refine r_iload_n C (pc := 2) dX5_change_2 rfl 2 rfl ?_
  obtain ⟨r3, e3, h⟩ := wp_b1 h
  refine b_cVi C (pc := 3) dX5_change_3 (c_X5_hasItem (xl g) (xG g) a_this a_this_items a_this_sorts a_this_lengths c_this_sorts c_this_lengths p1 p2 r3 e3) rfl gX5_change_X5_hasItem ⟨rfl, rfl⟩ 2 hd_X5_hasItem ⟨Nat.le_of_ble_eq_true rfl, Nat.le_of_ble_eq_true rfl⟩ rfl 0 rfl rfl rfl [0, 8, 9] rfl (srt_nd 0 rfl) (ws' := w_X5_change (xG g) a_this a_this_items a_this_sorts a_this_lengths w_this_items c_this_items_r c_this_sorts c_this_lengths) (Put.m rfl rfl rfl) rfl (rest := []) rfl (Nat.le_of_ble_eq_true rfl) ⟨Nat.zero_le _, Nat.zero_le _⟩ ?_
  refine r_if_ne C (pc := 6) 11 dX5_change_6 rfl h (fun c6 h => ?_) (fun c6 h => ?_)
  · refine r_aload_n C (pc := 11) dX5_change_11 rfl 0 rfl ?_
    refine r_get C (pc := 12) dX5_change_12 gf_X5_change_11 0 rfl rfl ?_
    refine r_iload_n C (pc := 15) dX5_change_15 rfl 1 rfl ?_
    refine r_aald C (pc := 16) dX5_change_16 h 1 rfl (fun hi16 h => ?_)
    refine r_iload_n C (pc := 17) dX5_change_17 rfl 2 rfl ?_
    refine r_aload_n C (pc := 18) dX5_change_18 rfl 0 rfl ?_
    refine r_get C (pc := 19) dX5_change_19 gf_X5_change_14 0 rfl rfl ?_
    refine r_iload_n C (pc := 22) dX5_change_22 rfl 1 rfl ?_
    refine r_iald C (pc := 23) dX5_change_23 h 8 rfl (fun h => ?_)
    refine r_lload_n C (pc := 24) dX5_change_24 rfl 3 rfl ?_
    obtain ⟨r25, e25, h⟩ := wp_b1 h
    refine b_cSl C (pc := 25) dX5_change_25 (c_X5_lowestBits (xl g) (xG g) (c_this_sorts (ix p1)) p3 r25 e25) rfl gX5_change_X5_lowestBits ⟨rfl, rfl⟩ 2 hd_X5_lowestBits ⟨Nat.le_of_ble_eq_true rfl, Nat.le_of_ble_eq_true rfl⟩ rfl [] rfl (srt_nd 0 rfl) (ws' := w_X5_change (xG g) a_this a_this_items a_this_sorts a_this_lengths w_this_items c_this_items_r c_this_sorts c_this_lengths) (Put.m rfl rfl rfl) rfl (rest := [.int (jz p2), .ref (w_this_items (ix p1))]) rfl (Nat.le_of_ble_eq_true rfl) ⟨Nat.zero_le _, Nat.zero_le _⟩ ?_
    refine r_last C (pc := 28) dX5_change_28 h (2 + ix p1) (wg_X5_change (xG g) a_this a_this_items a_this_sorts a_this_lengths w_this_items c_this_items_r c_this_sorts c_this_lengths (tp_lt hi16)) (ws' := w_X5_change (xG g) a_this a_this_items a_this_sorts a_this_lengths w_this_items (up c_this_items_r (ix p1) (up (c_this_items_r (ix p1)) (ix p2) r25)) c_this_sorts c_this_lengths) (wu_X5_change (xG g) a_this a_this_items a_this_sorts a_this_lengths w_this_items c_this_items_r c_this_sorts c_this_lengths (tp_lt hi16) _) (fun h => ?_)
    refine r_iconst C (pc := 29) dX5_change_29 ?_
    exact r_iret C (pc := 30) dX5_change_30 (hK 1 (up c_this_items_r (ix p1) (up (c_this_items_r (ix p1)) (ix p2) r25)) (wp_s h) (nB rfl).1)
  · refine r_iconst C (pc := 9) dX5_change_9 ?_
    exact r_iret C (pc := 10) dX5_change_10 (hK 0 c_this_items_r (wp_s h) (nB rfl).1)
theorem c_X5_change (l : Launch) (G : gG) (a_this : Nat) (a_this_items : Nat) (a_this_sorts : Nat) (a_this_lengths : Nat) (w_this_items : Nat → Nat) (c_this_items_r : Nat → Nat → Int64) (c_this_sorts : Nat → Int) (c_this_lengths : Nat → Int) (p1 : Int) (p2 : Int) (p3 : Int64) (r : Int) (o0 : Nat → Nat → Int64) (hf : f_X5_change p1 p2 p3 c_this_items_r c_this_sorts c_this_lengths = some (r, o0)) : CTi l yX5_change wsX5_change rm_X5_change G (w_X5_change G a_this a_this_items a_this_sorts a_this_lengths w_this_items c_this_items_r c_this_sorts c_this_lengths) [.ref a_this, .int (jz p1), .int (jz p2), .long p3] (jz r) (w_X5_change G a_this a_this_items a_this_sorts a_this_lengths w_this_items o0 c_this_sorts c_this_lengths) := CTi_of (by decide) rfl rfl (Nat.le_of_ble_eq_true rfl) (fun g C hG hl hF => by
    subst hG
    subst hl
    exact k_X5_change C a_this a_this_items a_this_sorts a_this_lengths w_this_items c_this_items_r c_this_sorts c_this_lengths p1 p2 p3 (fun x => x = (r, o0)) (fun r' o0' e => by cases e; exact hF) ⟨_, hf, rfl⟩)
