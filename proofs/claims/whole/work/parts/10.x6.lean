-- TightHulls$Text.add(I)Z
def f_X6_add (p1 : Int) (c_this_held : Int) (c_this_signs : Nat → Int) : Option (Int × Int × (Nat → Int)) := if ltI c_this_held 100 = true then (lv ((byI p1)) (fun x21 => grd (iin c_this_held 100) (lv ((c_this_held + 1)) (fun x29 => some (1, x29, (up c_this_signs (ix c_this_held) (byI x21))))))) else (some (0, c_this_held, c_this_signs))
abbrev rm_X6_add : Room := { frames := 0, cells := 0, slots := 0, locals := 0 }
abbrev w_X6_add (G : gG) (a_this : Nat) (a_this_signs : Nat) (a_this_starts : Nat) (c_this_held : Int) (c_this_clauses : Int) (c_this_signs : Nat → Int) : va_W := [(a_this, .inr (6, [.ref a_this_signs, .int (jz c_this_held), .ref a_this_starts, .int (jz c_this_clauses)])), (a_this_signs, aB G 100 c_this_signs)]
theorem hd_X6_add : yX6_add.cls = RX6 ∧ yX6_add.cls ≠ "java/lang/invoke/MethodHandle" ∧ yX6_add.cls ≠ "java/lang/invoke/VarHandle" ∧ (parseMethodDescriptor yX6_add.desc).map (fun d => d.parameters.length) = some 1 := by decide +kernel
theorem in_X6_add_X6 : ∀ w ∈ u_ws RX6 TX6 4, w ∈ wsX6_add := fun w h => List.mem_cons_of_mem _ (List.mem_append_right _ (h))
theorem gf_X6_add_13 : GF wsX6_add RX6 13 6 1 := ⟨RX6, TX6, 4, rfl, in_X6_add_X6, by decide, List.mem_of_getElem? (i := 1) rfl⟩
theorem gf_X6_add_9 : GF wsX6_add RX6 9 6 0 := ⟨RX6, TX6, 4, rfl, in_X6_add_X6, by decide, List.mem_of_getElem? (i := 2) rfl⟩
theorem pf_X6_add_13 : PF wsX6_add RX6 13 6 1 .int false := ⟨RX6, TX6, 4, tyX6, rfl, in_X6_add_X6, tyX6_ok, nmX6, by decide, List.mem_of_getElem? (i := 1) rfl, rfl, rfl, rfl⟩
set_option maxRecDepth 100000 in
set_option maxHeartbeats 4000000 in
theorem k_X6_add {g : XC} (C : XOk g cX6_add RX6 wsX6_add rm_X6_add 2) (a_this : Nat) (a_this_signs : Nat) (a_this_starts : Nat) (c_this_held : Int) (c_this_clauses : Int) (c_this_signs : Nat → Int) (p1 : Int) (K : (Int × Int × (Nat → Int)) → Prop) (hK : ∀ (r : Int) (o0 : Int) (o1 : Nat → Int), K (r, o0, o1) → (narrow .boolean (.int (jz r)) = .int (jz r) → FinI g 0 0 (w_X6_add (xG g) a_this a_this_signs a_this_starts o0 c_this_clauses o1) (jz r))) (h : wp (f_X6_add p1 c_this_held c_this_signs) K) : WW g 0 0 (w_X6_add (xG g) a_this a_this_signs a_this_starts c_this_held c_this_clauses c_this_signs) 0 [(0, .ref a_this), (1, .int (jz p1))] [] := by
  unfold f_X6_add at h
  refine r_aload_n C (pc := 0) dX6_add_0 rfl 0 rfl ?_
  refine r_get C (pc := 1) dX6_add_1 gf_X6_add_13 0 rfl rfl ?_
  refine r_bipush C (pc := 4) dX6_add_4 rfl ?_
  refine r_icmp_lt C (pc := 6) 11 dX6_add_6 rfl h (fun c6 h => ?_) (fun c6 h => ?_)
  · refine r_aload_n C (pc := 11) dX6_add_11 rfl 0 rfl ?_
    refine r_get C (pc := 12) dX6_add_12 gf_X6_add_9 0 rfl rfl ?_
    refine r_aload_n C (pc := 15) dX6_add_15 rfl 0 rfl ?_
    refine r_get C (pc := 16) dX6_add_16 gf_X6_add_13 0 rfl rfl ?_
    refine r_iload_n C (pc := 19) dX6_add_19 rfl 1 rfl ?_
    refine r_i2b C (pc := 20) dX6_add_20 ?_
    refine r_let h (fun x21 h => ?_)
    refine r_bast C (pc := 21) dX6_add_21 h 1 rfl (ws' := w_X6_add (xG g) a_this a_this_signs a_this_starts c_this_held c_this_clauses (up c_this_signs (ix c_this_held) (byI x21))) rfl (fun h => ?_)
    refine r_aload_n C (pc := 22) dX6_add_22 rfl 0 rfl ?_
    refine r_dup C (pc := 23) dX6_add_23 rfl ?_
    refine r_get C (pc := 24) dX6_add_24 gf_X6_add_13 0 rfl rfl ?_
    refine r_iconst C (pc := 27) dX6_add_27 ?_
    refine r_iadd C (pc := 28) dX6_add_28 ?_
    refine r_let h (fun x29 h => ?_)
    refine r_puti C (pc := 29) dX6_add_29 pf_X6_add_13 0 rfl (Nat.le_of_ble_eq_true rfl) (ws' := w_X6_add (xG g) a_this a_this_signs a_this_starts x29 c_this_clauses (up c_this_signs (ix c_this_held) (byI x21))) rfl ?_
    refine r_iconst C (pc := 32) dX6_add_32 ?_
    exact r_iret C (pc := 33) dX6_add_33 (hK 1 x29 (up c_this_signs (ix c_this_held) (byI x21)) (wp_s h) (nB rfl).1)
  · refine r_iconst C (pc := 9) dX6_add_9 ?_
    exact r_iret C (pc := 10) dX6_add_10 (hK 0 c_this_held c_this_signs (wp_s h) (nB rfl).1)
theorem c_X6_add (l : Launch) (G : gG) (a_this : Nat) (a_this_signs : Nat) (a_this_starts : Nat) (c_this_held : Int) (c_this_clauses : Int) (c_this_signs : Nat → Int) (p1 : Int) (r : Int) (o0 : Int) (o1 : Nat → Int) (hf : f_X6_add p1 c_this_held c_this_signs = some (r, o0, o1)) : CTi l yX6_add wsX6_add rm_X6_add G (w_X6_add G a_this a_this_signs a_this_starts c_this_held c_this_clauses c_this_signs) [.ref a_this, .int (jz p1)] (jz r) (w_X6_add G a_this a_this_signs a_this_starts o0 c_this_clauses o1) := CTi_of (by decide) rfl rfl (Nat.le_of_ble_eq_true rfl) (fun g C hG hl hF => by
    subst hG
    subst hl
    exact k_X6_add C a_this a_this_signs a_this_starts c_this_held c_this_clauses c_this_signs p1 (fun x => x = (r, o0, o1)) (fun r' o0' o1' e => by cases e; exact hF) ⟨_, hf, rfl⟩)

-- TightHulls$Text.empty()V
def f_X6_empty (c_this_held : Int) (c_this_clauses : Int) : Option (Int × Int) := some (0, 0)
abbrev rm_X6_empty : Room := { frames := 0, cells := 0, slots := 0, locals := 0 }
abbrev w_X6_empty (G : gG) (a_this : Nat) (a_this_signs : Nat) (a_this_starts : Nat) (c_this_held : Int) (c_this_clauses : Int) : va_W := [(a_this, .inr (6, [.ref a_this_signs, .int (jz c_this_held), .ref a_this_starts, .int (jz c_this_clauses)]))]
theorem hd_X6_empty : yX6_empty.cls = RX6 ∧ yX6_empty.cls ≠ "java/lang/invoke/MethodHandle" ∧ yX6_empty.cls ≠ "java/lang/invoke/VarHandle" ∧ (parseMethodDescriptor yX6_empty.desc).map (fun d => d.parameters.length) = some 0 := by decide +kernel
theorem in_X6_empty_X6 : ∀ w ∈ u_ws RX6 TX6 4, w ∈ wsX6_empty := fun w h => List.mem_cons_of_mem _ (List.mem_append_right _ (h))
theorem pf_X6_empty_13 : PF wsX6_empty RX6 13 6 1 .int false := ⟨RX6, TX6, 4, tyX6, rfl, in_X6_empty_X6, tyX6_ok, nmX6, by decide, List.mem_of_getElem? (i := 1) rfl, rfl, rfl, rfl⟩
theorem pf_X6_empty_21 : PF wsX6_empty RX6 21 6 3 .int false := ⟨RX6, TX6, 4, tyX6, rfl, in_X6_empty_X6, tyX6_ok, nmX6, by decide, List.mem_of_getElem? (i := 2) rfl, rfl, rfl, rfl⟩
set_option maxRecDepth 100000 in
set_option maxHeartbeats 4000000 in
theorem k_X6_empty {g : XC} (C : XOk g cX6_empty RX6 wsX6_empty rm_X6_empty 1) (a_this : Nat) (a_this_signs : Nat) (a_this_starts : Nat) (c_this_held : Int) (c_this_clauses : Int)  (K : (Int × Int) → Prop) (hK : ∀ (o0 : Int) (o1 : Int), K (o0, o1) → FinV g 0 0 (w_X6_empty (xG g) a_this a_this_signs a_this_starts o0 o1)) (h : wp (f_X6_empty c_this_held c_this_clauses) K) : WW g 0 0 (w_X6_empty (xG g) a_this a_this_signs a_this_starts c_this_held c_this_clauses) 0 [(0, .ref a_this)] [] := by
  unfold f_X6_empty at h
  refine r_aload_n C (pc := 0) dX6_empty_0 rfl 0 rfl ?_
  refine r_iconst C (pc := 1) dX6_empty_1 ?_
  refine r_puti C (pc := 2) dX6_empty_2 pf_X6_empty_13 0 rfl (Nat.le_of_ble_eq_true rfl) (ws' := w_X6_empty (xG g) a_this a_this_signs a_this_starts 0 c_this_clauses) rfl ?_
  refine r_aload_n C (pc := 5) dX6_empty_5 rfl 0 rfl ?_
  refine r_iconst C (pc := 6) dX6_empty_6 ?_
  refine r_puti C (pc := 7) dX6_empty_7 pf_X6_empty_21 0 rfl (Nat.le_of_ble_eq_true rfl) (ws' := w_X6_empty (xG g) a_this a_this_signs a_this_starts 0 0) rfl ?_
  exact r_vret C (pc := 10) dX6_empty_10 (hK 0 0 (wp_s h))
theorem c_X6_empty (l : Launch) (G : gG) (a_this : Nat) (a_this_signs : Nat) (a_this_starts : Nat) (c_this_held : Int) (c_this_clauses : Int) (o0 : Int) (o1 : Int) (hf : f_X6_empty c_this_held c_this_clauses = some (o0, o1)) : CTv l yX6_empty wsX6_empty rm_X6_empty G (w_X6_empty G a_this a_this_signs a_this_starts c_this_held c_this_clauses) [.ref a_this] (w_X6_empty G a_this a_this_signs a_this_starts o0 o1) := CTv_of (by decide) rfl rfl (Nat.le_of_ble_eq_true rfl) (fun g C hG hl hF => by
    subst hG
    subst hl
    exact k_X6_empty C a_this a_this_signs a_this_starts c_this_held c_this_clauses (fun x => x = (o0, o1)) (fun o0' o1' e => by cases e; exact hF) ⟨_, hf, rfl⟩)

-- TightHulls$Text.signAt(I)I
def f_X6_signAt (p1 : Int) (c_this_held : Int) (c_this_signs : Nat → Int) : Option Int := jn (fun (s0_22 : Int) => some s0_22) (fun (k22 : Int → Option Int) => jn (k22 (-1)) (fun (k21 : Option Int) => if ltI p1 0 = true then k21 else (if ltI p1 c_this_held = true then (grd (iin p1 100) (k22 (c_this_signs (ix p1)))) else k21)))
abbrev rm_X6_signAt : Room := { frames := 0, cells := 0, slots := 0, locals := 0 }
abbrev w_X6_signAt (G : gG) (a_this : Nat) (a_this_signs : Nat) (a_this_starts : Nat) (c_this_held : Int) (c_this_clauses : Int) (c_this_signs : Nat → Int) : va_W := [(a_this, .inr (6, [.ref a_this_signs, .int (jz c_this_held), .ref a_this_starts, .int (jz c_this_clauses)])), (a_this_signs, aB G 100 c_this_signs)]
theorem hd_X6_signAt : yX6_signAt.cls = RX6 ∧ yX6_signAt.cls ≠ "java/lang/invoke/MethodHandle" ∧ yX6_signAt.cls ≠ "java/lang/invoke/VarHandle" ∧ (parseMethodDescriptor yX6_signAt.desc).map (fun d => d.parameters.length) = some 1 := by decide +kernel
theorem in_X6_signAt_X6 : ∀ w ∈ u_ws RX6 TX6 4, w ∈ wsX6_signAt := fun w h => List.mem_cons_of_mem _ (List.mem_append_right _ (h))
theorem gf_X6_signAt_13 : GF wsX6_signAt RX6 13 6 1 := ⟨RX6, TX6, 4, rfl, in_X6_signAt_X6, by decide, List.mem_of_getElem? (i := 1) rfl⟩
theorem gf_X6_signAt_9 : GF wsX6_signAt RX6 9 6 0 := ⟨RX6, TX6, 4, rfl, in_X6_signAt_X6, by decide, List.mem_of_getElem? (i := 2) rfl⟩
set_option maxRecDepth 100000 in
set_option maxHeartbeats 4000000 in
theorem k_X6_signAt {g : XC} (C : XOk g cX6_signAt RX6 wsX6_signAt rm_X6_signAt 2) (a_this : Nat) (a_this_signs : Nat) (a_this_starts : Nat) (c_this_held : Int) (c_this_clauses : Int) (c_this_signs : Nat → Int) (p1 : Int) (K : Int → Prop) (hK : ∀ (r : Int), K r → (narrow .int (.int (jz r)) = .int (jz r) → FinI g 0 0 (w_X6_signAt (xG g) a_this a_this_signs a_this_starts c_this_held c_this_clauses c_this_signs) (jz r))) (h : wp (f_X6_signAt p1 c_this_held c_this_signs) K) : WW g 0 0 (w_X6_signAt (xG g) a_this a_this_signs a_this_starts c_this_held c_this_clauses c_this_signs) 0 [(0, .ref a_this), (1, .int (jz p1))] [] := by
  unfold f_X6_signAt at h
  refine r_iload_n C (pc := 0) dX6_signAt_0 rfl 1 rfl ?_
  refine jn_e (fun (k22 : Int → Option Int) => ∀ (s0_22 : Int), wp (k22 s0_22) K → WW g 0 0 (w_X6_signAt (xG g) a_this a_this_signs a_this_starts c_this_held c_this_clauses c_this_signs) 22 [] [.int (jz s0_22)]) h (fun s0_22 h => ?_) (fun k22 hk22 h => ?_)
  · exact r_iret C (pc := 22) dX6_signAt_22 (hK s0_22 (wp_s h) rfl)
  · refine jn_e (fun (k21 : Option Int) => wp (k21) K → WW g 0 0 (w_X6_signAt (xG g) a_this a_this_signs a_this_starts c_this_held c_this_clauses c_this_signs) 21 [] []) h (fun h => ?_) (fun k21 hk21 h => ?_)
    · refine r_iconst C (pc := 21) dX6_signAt_21 ?_
      exact hk22 (-1) h
    · refine r_if_lt C (pc := 1) 21 dX6_signAt_1 rfl h (fun c1 h => ?_) (fun c1 h => ?_)
      · refine r_sub [] rfl ?_
        exact hk21 h
      · refine r_iload_n C (pc := 4) dX6_signAt_4 rfl 1 rfl ?_
        refine r_aload_n C (pc := 5) dX6_signAt_5 rfl 0 rfl ?_
        refine r_get C (pc := 6) dX6_signAt_6 gf_X6_signAt_13 0 rfl rfl ?_
        refine r_icmp_ge C (pc := 9) 21 dX6_signAt_9 rfl h (fun c9 h => ?_) (fun c9 h => ?_)
        · refine r_sub [] rfl ?_
          exact hk21 h
        · refine r_aload_n C (pc := 12) dX6_signAt_12 rfl 0 rfl ?_
          refine r_get C (pc := 13) dX6_signAt_13 gf_X6_signAt_9 0 rfl rfl ?_
          refine r_iload_n C (pc := 16) dX6_signAt_16 rfl 1 rfl ?_
          refine r_bald C (pc := 17) dX6_signAt_17 h 1 rfl (fun h => ?_)
          refine r_goto C (pc := 18) 22 dX6_signAt_18 rfl ?_
          refine r_sub [] rfl ?_
          exact hk22 (c_this_signs (ix p1)) h
theorem c_X6_signAt (l : Launch) (G : gG) (a_this : Nat) (a_this_signs : Nat) (a_this_starts : Nat) (c_this_held : Int) (c_this_clauses : Int) (c_this_signs : Nat → Int) (p1 : Int) (r : Int) (hf : f_X6_signAt p1 c_this_held c_this_signs = some r) : CTi l yX6_signAt wsX6_signAt rm_X6_signAt G (w_X6_signAt G a_this a_this_signs a_this_starts c_this_held c_this_clauses c_this_signs) [.ref a_this, .int (jz p1)] (jz r) (w_X6_signAt G a_this a_this_signs a_this_starts c_this_held c_this_clauses c_this_signs) := CTi_of (by decide) rfl rfl (Nat.le_of_ble_eq_true rfl) (fun g C hG hl hF => by
    subst hG
    subst hl
    exact k_X6_signAt C a_this a_this_signs a_this_starts c_this_held c_this_clauses c_this_signs p1 (fun x => x = r) (fun r' e => by cases e; exact hF) ⟨_, hf, rfl⟩)

-- TightHulls$Text.isDigit(I)Z
def f_X6_isDigit (p1 : Int) : Option Int := jn (fun (s0_17 : Int) => grd (isB s0_17) (some s0_17)) (fun (k17 : Int → Option Int) => jn (k17 0) (fun (k16 : Option Int) => if ltI p1 48 = true then k16 else (if ltI 57 p1 = true then k16 else (k17 1))))
abbrev rm_X6_isDigit : Room := { frames := 0, cells := 0, slots := 0, locals := 0 }
abbrev w_X6_isDigit (G : gG)  : va_W := []
theorem hd_X6_isDigit : yX6_isDigit.cls ≠ "java/lang/invoke/MethodHandle" ∧ yX6_isDigit.cls ≠ "java/lang/invoke/VarHandle" ∧ (parseMethodDescriptor yX6_isDigit.desc).map (fun d => d.parameters.length) = some 1 := by decide +kernel
set_option maxRecDepth 100000 in
set_option maxHeartbeats 4000000 in
theorem k_X6_isDigit {g : XC} (C : XOk g cX6_isDigit RX6 wsX6_isDigit rm_X6_isDigit 1)  (p1 : Int) (K : Int → Prop) (hK : ∀ (r : Int), K r → (narrow .boolean (.int (jz r)) = .int (jz r) → FinI g 0 0 (w_X6_isDigit (xG g)) (jz r))) (h : wp (f_X6_isDigit p1) K) : WW g 0 0 (w_X6_isDigit (xG g)) 0 [(0, .int (jz p1))] [] := by
  unfold f_X6_isDigit at h
  refine r_iload_n C (pc := 0) dX6_isDigit_0 rfl 0 rfl ?_
  refine r_bipush C (pc := 1) dX6_isDigit_1 rfl ?_
  refine jn_e (fun (k17 : Int → Option Int) => ∀ (s0_17 : Int), wp (k17 s0_17) K → WW g 0 0 (w_X6_isDigit (xG g)) 17 [] [.int (jz s0_17)]) h (fun s0_17 h => ?_) (fun k17 hk17 h => ?_)
  · exact r_iret C (pc := 17) dX6_isDigit_17 (hK s0_17 (wp_s (wp_g h).2) (nB (wp_g h).1).1)
  · refine jn_e (fun (k16 : Option Int) => wp (k16) K → WW g 0 0 (w_X6_isDigit (xG g)) 16 [] []) h (fun h => ?_) (fun k16 hk16 h => ?_)
    · refine r_iconst C (pc := 16) dX6_isDigit_16 ?_
      exact hk17 0 h
    · refine r_icmp_lt C (pc := 3) 16 dX6_isDigit_3 rfl h (fun c3 h => ?_) (fun c3 h => ?_)
      · refine r_sub [] rfl ?_
        exact hk16 h
      · refine r_iload_n C (pc := 6) dX6_isDigit_6 rfl 0 rfl ?_
        refine r_bipush C (pc := 7) dX6_isDigit_7 rfl ?_
        refine r_icmp_gt C (pc := 9) 16 dX6_isDigit_9 rfl h (fun c9 h => ?_) (fun c9 h => ?_)
        · refine r_sub [] rfl ?_
          exact hk16 h
        · refine r_iconst C (pc := 12) dX6_isDigit_12 ?_
          refine r_goto C (pc := 13) 17 dX6_isDigit_13 rfl ?_
          refine r_sub [] rfl ?_
          exact hk17 1 h
theorem c_X6_isDigit (l : Launch) (G : gG) (p1 : Int) (r : Int) (hf : f_X6_isDigit p1 = some r) : CTi l yX6_isDigit wsX6_isDigit rm_X6_isDigit G (w_X6_isDigit G) [.int (jz p1)] (jz r) (w_X6_isDigit G) := CTi_of (by decide) rfl rfl (Nat.le_of_ble_eq_true rfl) (fun g C hG hl hF => by
    subst hG
    subst hl
    exact k_X6_isDigit C p1 (fun x => x = r) (fun r' e => by cases e; exact hF) ⟨_, hf, rfl⟩)

-- TightHulls$Text.turned(I)I
def f_X6_turned (p1 : Int) : Option Int := some ((-1) - p1)
abbrev rm_X6_turned : Room := { frames := 0, cells := 0, slots := 0, locals := 0 }
abbrev w_X6_turned (G : gG)  : va_W := []
theorem hd_X6_turned : yX6_turned.cls ≠ "java/lang/invoke/MethodHandle" ∧ yX6_turned.cls ≠ "java/lang/invoke/VarHandle" ∧ (parseMethodDescriptor yX6_turned.desc).map (fun d => d.parameters.length) = some 1 := by decide +kernel
set_option maxRecDepth 100000 in
set_option maxHeartbeats 4000000 in
theorem k_X6_turned {g : XC} (C : XOk g cX6_turned RX6 wsX6_turned rm_X6_turned 1)  (p1 : Int) (K : Int → Prop) (hK : ∀ (r : Int), K r → (narrow .int (.int (jz r)) = .int (jz r) → FinI g 0 0 (w_X6_turned (xG g)) (jz r))) (h : wp (f_X6_turned p1) K) : WW g 0 0 (w_X6_turned (xG g)) 0 [(0, .int (jz p1))] [] := by
  unfold f_X6_turned at h
  refine r_iconst C (pc := 0) dX6_turned_0 ?_
  refine r_iload_n C (pc := 1) dX6_turned_1 rfl 0 rfl ?_
  refine r_isub C (pc := 2) dX6_turned_2 ?_
  exact r_iret C (pc := 3) dX6_turned_3 (hK ((-1) - p1) (wp_s h) rfl)
theorem c_X6_turned (l : Launch) (G : gG) (p1 : Int) (r : Int) (hf : f_X6_turned p1 = some r) : CTi l yX6_turned wsX6_turned rm_X6_turned G (w_X6_turned G) [.int (jz p1)] (jz r) (w_X6_turned G) := CTi_of (by decide) rfl rfl (Nat.le_of_ble_eq_true rfl) (fun g C hG hl hF => by
    subst hG
    subst hl
    exact k_X6_turned C p1 (fun x => x = r) (fun r' e => by cases e; exact hF) ⟨_, hf, rfl⟩)

-- TightHulls$Text.pastDigits(III)I
def f_X6_pastDigits (p1 : Int) (p2 : Int) (p3 : Int) (c_this_held : Int) (c_this_signs : Nat → Int) : Option Int := lq1 (fun (n3 : Int → Option Int) (v4_3 : Int) => jn (jn (fun (s0_49 : Int) => some s0_49) (fun (k49 : Int → Option Int) => if ltI v4_3 p2 = true then (bd1 (f_X6_turned (p1 + v4_3)) (fun r39 => k49 r39)) else (k49 (p1 + v4_3)))) (fun (k29 : Option Int) => if ltI v4_3 p3 = true then (bd1 (f_X6_signAt (p1 + v4_3) c_this_held c_this_signs) (fun r14 => bd1 (f_X6_isDigit r14) (fun r17 => if eqI r17 0 = true then k29 else (n3 (v4_3 + 1))))) else k29)) 300 0
abbrev rm_X6_pastDigits : Room := { frames := 1, cells := 0, slots := 0, locals := 21 }
abbrev w_X6_pastDigits (G : gG) (a_this : Nat) (a_this_signs : Nat) (a_this_starts : Nat) (c_this_held : Int) (c_this_clauses : Int) (c_this_signs : Nat → Int) : va_W := [(a_this, .inr (6, [.ref a_this_signs, .int (jz c_this_held), .ref a_this_starts, .int (jz c_this_clauses)])), (a_this_signs, aB G 100 c_this_signs)]
theorem hd_X6_pastDigits : yX6_pastDigits.cls = RX6 ∧ yX6_pastDigits.cls ≠ "java/lang/invoke/MethodHandle" ∧ yX6_pastDigits.cls ≠ "java/lang/invoke/VarHandle" ∧ (parseMethodDescriptor yX6_pastDigits.desc).map (fun d => d.parameters.length) = some 3 := by decide +kernel
set_option maxRecDepth 100000 in
set_option maxHeartbeats 4000000 in
theorem k_X6_pastDigits {g : XC} (C : XOk g cX6_pastDigits RX6 wsX6_pastDigits rm_X6_pastDigits 5) (a_this : Nat) (a_this_signs : Nat) (a_this_starts : Nat) (c_this_held : Int) (c_this_clauses : Int) (c_this_signs : Nat → Int) (p1 : Int) (p2 : Int) (p3 : Int) (K : Int → Prop) (hK : ∀ (r : Int), K r → (narrow .int (.int (jz r)) = .int (jz r) → FinI g 0 0 (w_X6_pastDigits (xG g) a_this a_this_signs a_this_starts c_this_held c_this_clauses c_this_signs) (jz r))) (h : wp (f_X6_pastDigits p1 p2 p3 c_this_held c_this_signs) K) : WW g 0 0 (w_X6_pastDigits (xG g) a_this a_this_signs a_this_starts c_this_held c_this_clauses c_this_signs) 0 [(0, .ref a_this), (1, .int (jz p1)), (2, .int (jz p2)), (3, .int (jz p3))] [] := by
  unfold f_X6_pastDigits at h
  refine r_iconst C (pc := 0) dX6_pastDigits_0 ?_
  refine r_istore C (pc := 1) dX6_pastDigits_1 (by decide) (L' := [(0, .ref a_this), (1, .int (jz p1)), (2, .int (jz p2)), (3, .int (jz p3)), (4, .int (jz 0))]) rfl ?_
  refine lq1_e (fun (v4_3 : Int) => WW g 0 0 (w_X6_pastDigits (xG g) a_this a_this_signs a_this_starts c_this_held c_this_clauses c_this_signs) 3 [(0, .ref a_this), (1, .int (jz p1)), (2, .int (jz p2)), (3, .int (jz p3)), (4, .int (jz v4_3))] []) h (fun n3 hn3 v4_3 h => ?_)
  refine r_iload C (pc := 3) dX6_pastDigits_3 4 rfl ?_
  refine r_iload_n C (pc := 5) dX6_pastDigits_5 rfl 3 rfl ?_
  refine jn_e (fun (k29 : Option Int) => wp (k29) K → WW g 0 0 (w_X6_pastDigits (xG g) a_this a_this_signs a_this_starts c_this_held c_this_clauses c_this_signs) 29 [(1, .int (jz p1)), (2, .int (jz p2)), (4, .int (jz v4_3))] []) h (fun h => ?_) (fun k29 hk29 h => ?_)
  · refine r_iload C (pc := 29) dX6_pastDigits_29 2 rfl ?_
    refine r_iload_n C (pc := 31) dX6_pastDigits_31 rfl 1 rfl ?_
    refine jn_e (fun (k49 : Int → Option Int) => ∀ (s0_49 : Int), wp (k49 s0_49) K → WW g 0 0 (w_X6_pastDigits (xG g) a_this a_this_signs a_this_starts c_this_held c_this_clauses c_this_signs) 49 [] [.int (jz s0_49)]) h (fun s0_49 h => ?_) (fun k49 hk49 h => ?_)
    · exact r_iret C (pc := 49) dX6_pastDigits_49 (hK s0_49 (wp_s h) rfl)
    · refine r_icmp_ge C (pc := 32) 45 dX6_pastDigits_32 rfl h (fun c32 h => ?_) (fun c32 h => ?_)
      · refine r_iload_n C (pc := 45) dX6_pastDigits_45 rfl 0 rfl ?_
        refine r_iload C (pc := 46) dX6_pastDigits_46 2 rfl ?_
        refine r_iadd C (pc := 48) dX6_pastDigits_48 ?_
        refine r_sub [] rfl ?_
        exact hk49 (p1 + v4_3) h
      · refine r_iload_n C (pc := 35) dX6_pastDigits_35 rfl 0 rfl ?_
        refine r_iload C (pc := 36) dX6_pastDigits_36 2 rfl ?_
        refine r_iadd C (pc := 38) dX6_pastDigits_38 ?_
        obtain ⟨r39, e39, h⟩ := wp_b1 h
        refine b_cSi C (pc := 39) dX6_pastDigits_39 (c_X6_turned (xl g) (xG g) (p1 + v4_3) r39 e39) rfl gX6_pastDigits_X6_turned ⟨rfl, rfl⟩ 1 hd_X6_turned ⟨Nat.le_of_ble_eq_true rfl, Nat.le_of_ble_eq_true rfl⟩ rfl [] rfl (srt_nd 0 rfl) (ws' := w_X6_pastDigits (xG g) a_this a_this_signs a_this_starts c_this_held c_this_clauses c_this_signs) (Put.m rfl rfl rfl) rfl (rest := []) rfl (Nat.le_of_ble_eq_true rfl) ⟨Nat.zero_le _, Nat.zero_le _⟩ ?_
        refine r_goto C (pc := 42) 49 dX6_pastDigits_42 rfl ?_
        refine r_sub [] rfl ?_
        exact hk49 r39 h
  · refine r_icmp_ge C (pc := 6) 29 dX6_pastDigits_6 rfl h (fun c6 h => ?_) (fun c6 h => ?_)
    · refine r_sub [1, 2, 4] rfl ?_
      exact hk29 h
    · refine r_aload_n C (pc := 9) dX6_pastDigits_9 rfl 0 rfl ?_
      refine r_iload_n C (pc := 10) dX6_pastDigits_10 rfl 1 rfl ?_
      refine r_iload C (pc := 11) dX6_pastDigits_11 4 rfl ?_
      refine r_iadd C (pc := 13) dX6_pastDigits_13 ?_
      obtain ⟨r14, e14, h⟩ := wp_b1 h
      refine b_cVi C (pc := 14) dX6_pastDigits_14 (c_X6_signAt (xl g) (xG g) a_this a_this_signs a_this_starts c_this_held c_this_clauses c_this_signs (p1 + v4_3) r14 e14) rfl gX6_pastDigits_X6_signAt ⟨rfl, rfl⟩ 1 hd_X6_signAt ⟨Nat.le_of_ble_eq_true rfl, Nat.le_of_ble_eq_true rfl⟩ rfl 0 rfl rfl rfl [0, 1] rfl (srt_nd 0 rfl) (ws' := w_X6_pastDigits (xG g) a_this a_this_signs a_this_starts c_this_held c_this_clauses c_this_signs) (Put.m rfl rfl rfl) rfl (rest := []) rfl (Nat.le_of_ble_eq_true rfl) ⟨Nat.zero_le _, Nat.zero_le _⟩ ?_
      obtain ⟨r17, e17, h⟩ := wp_b1 h
      refine b_cSi C (pc := 17) dX6_pastDigits_17 (c_X6_isDigit (xl g) (xG g) r14 r17 e17) rfl gX6_pastDigits_X6_isDigit ⟨rfl, rfl⟩ 1 hd_X6_isDigit ⟨Nat.le_of_ble_eq_true rfl, Nat.le_of_ble_eq_true rfl⟩ rfl [] rfl (srt_nd 0 rfl) (ws' := w_X6_pastDigits (xG g) a_this a_this_signs a_this_starts c_this_held c_this_clauses c_this_signs) (Put.m rfl rfl rfl) rfl (rest := []) rfl (Nat.le_of_ble_eq_true rfl) ⟨Nat.zero_le _, Nat.zero_le _⟩ ?_
      refine r_if_eq C (pc := 20) 29 dX6_pastDigits_20 rfl h (fun c20 h => ?_) (fun c20 h => ?_)
      · refine r_sub [1, 2, 4] rfl ?_
        exact hk29 h
      · refine r_iinc C (pc := 23) dX6_pastDigits_23 4 rfl (by decide) (L' := [(0, .ref a_this), (1, .int (jz p1)), (2, .int (jz p2)), (3, .int (jz p3)), (4, .int (jz (v4_3 + 1)))]) rfl ?_
        refine r_goto C (pc := 26) 3 dX6_pastDigits_26 rfl ?_
        exact hn3 (v4_3 + 1) h
theorem c_X6_pastDigits (l : Launch) (G : gG) (a_this : Nat) (a_this_signs : Nat) (a_this_starts : Nat) (c_this_held : Int) (c_this_clauses : Int) (c_this_signs : Nat → Int) (p1 : Int) (p2 : Int) (p3 : Int) (r : Int) (hf : f_X6_pastDigits p1 p2 p3 c_this_held c_this_signs = some r) : CTi l yX6_pastDigits wsX6_pastDigits rm_X6_pastDigits G (w_X6_pastDigits G a_this a_this_signs a_this_starts c_this_held c_this_clauses c_this_signs) [.ref a_this, .int (jz p1), .int (jz p2), .int (jz p3)] (jz r) (w_X6_pastDigits G a_this a_this_signs a_this_starts c_this_held c_this_clauses c_this_signs) := CTi_of (by decide) rfl rfl (Nat.le_of_ble_eq_true rfl) (fun g C hG hl hF => by
    subst hG
    subst hl
    exact k_X6_pastDigits C a_this a_this_signs a_this_starts c_this_held c_this_clauses c_this_signs p1 p2 p3 (fun x => x = r) (fun r' e => by cases e; exact hF) ⟨_, hf, rfl⟩)

-- TightHulls$Text.pastSetApart(I)I
def f_X6_pastSetApart (p1 : Int) (c_this_held : Int) (c_this_signs : Nat → Int) : Option Int := bd1 (f_X6_pastDigits p1 1 4 c_this_held c_this_signs) (fun r4 => if ltI r4 0 = true then (some r4) else (bd1 (f_X6_signAt r4 c_this_held c_this_signs) (fun r16 => jn (fun (s0_40 : Int) => some s0_40) (fun (k40 : Int → Option Int) => if eqI r16 32 = true then (bd1 (f_X6_pastDigits (r4 + 1) 1 2 c_this_held c_this_signs) (fun r30 => k40 r30)) else (bd1 (f_X6_turned r4) (fun r37 => k40 r37))))))
abbrev rm_X6_pastSetApart : Room := { frames := 2, cells := 0, slots := 0, locals := 45 }
abbrev w_X6_pastSetApart (G : gG) (a_this : Nat) (a_this_signs : Nat) (a_this_starts : Nat) (c_this_held : Int) (c_this_clauses : Int) (c_this_signs : Nat → Int) : va_W := [(a_this, .inr (6, [.ref a_this_signs, .int (jz c_this_held), .ref a_this_starts, .int (jz c_this_clauses)])), (a_this_signs, aB G 100 c_this_signs)]
theorem hd_X6_pastSetApart : yX6_pastSetApart.cls = RX6 ∧ yX6_pastSetApart.cls ≠ "java/lang/invoke/MethodHandle" ∧ yX6_pastSetApart.cls ≠ "java/lang/invoke/VarHandle" ∧ (parseMethodDescriptor yX6_pastSetApart.desc).map (fun d => d.parameters.length) = some 1 := by decide +kernel
set_option maxRecDepth 100000 in
set_option maxHeartbeats 4000000 in
theorem k_X6_pastSetApart {g : XC} (C : XOk g cX6_pastSetApart RX6 wsX6_pastSetApart rm_X6_pastSetApart 3) (a_this : Nat) (a_this_signs : Nat) (a_this_starts : Nat) (c_this_held : Int) (c_this_clauses : Int) (c_this_signs : Nat → Int) (p1 : Int) (K : Int → Prop) (hK : ∀ (r : Int), K r → (narrow .int (.int (jz r)) = .int (jz r) → FinI g 0 0 (w_X6_pastSetApart (xG g) a_this a_this_signs a_this_starts c_this_held c_this_clauses c_this_signs) (jz r))) (h : wp (f_X6_pastSetApart p1 c_this_held c_this_signs) K) : WW g 0 0 (w_X6_pastSetApart (xG g) a_this a_this_signs a_this_starts c_this_held c_this_clauses c_this_signs) 0 [(0, .ref a_this), (1, .int (jz p1))] [] := by
  unfold f_X6_pastSetApart at h
  refine r_aload_n C (pc := 0) dX6_pastSetApart_0 rfl 0 rfl ?_
  refine r_iload_n C (pc := 1) dX6_pastSetApart_1 rfl 1 rfl ?_
  refine r_iconst C (pc := 2) dX6_pastSetApart_2 ?_
  refine r_iconst C (pc := 3) dX6_pastSetApart_3 ?_
  obtain ⟨r4, e4, h⟩ := wp_b1 h
  refine b_cVi C (pc := 4) dX6_pastSetApart_4 (c_X6_pastDigits (xl g) (xG g) a_this a_this_signs a_this_starts c_this_held c_this_clauses c_this_signs p1 1 4 r4 e4) rfl gX6_pastSetApart_X6_pastDigits ⟨rfl, rfl⟩ 3 hd_X6_pastDigits ⟨Nat.le_of_ble_eq_true rfl, Nat.le_of_ble_eq_true rfl⟩ rfl 0 rfl rfl rfl [0, 1] rfl (srt_nd 0 rfl) (ws' := w_X6_pastSetApart (xG g) a_this a_this_signs a_this_starts c_this_held c_this_clauses c_this_signs) (Put.m rfl rfl rfl) rfl (rest := []) rfl (Nat.le_of_ble_eq_true rfl) ⟨Nat.zero_le _, Nat.zero_le _⟩ ?_
  refine r_istore_n C (pc := 7) dX6_pastSetApart_7 rfl (by decide) (L' := [(0, .ref a_this), (1, .int (jz p1)), (2, .int (jz r4))]) rfl ?_
  refine r_iload_n C (pc := 8) dX6_pastSetApart_8 rfl 2 rfl ?_
  refine r_if_ge C (pc := 9) 14 dX6_pastSetApart_9 rfl h (fun c9 h => ?_) (fun c9 h => ?_)
  · refine r_aload_n C (pc := 14) dX6_pastSetApart_14 rfl 0 rfl ?_
    refine r_iload_n C (pc := 15) dX6_pastSetApart_15 rfl 2 rfl ?_
    obtain ⟨r16, e16, h⟩ := wp_b1 h
    refine b_cVi C (pc := 16) dX6_pastSetApart_16 (c_X6_signAt (xl g) (xG g) a_this a_this_signs a_this_starts c_this_held c_this_clauses c_this_signs r4 r16 e16) rfl gX6_pastSetApart_X6_signAt ⟨rfl, rfl⟩ 1 hd_X6_signAt ⟨Nat.le_of_ble_eq_true rfl, Nat.le_of_ble_eq_true rfl⟩ rfl 0 rfl rfl rfl [0, 1] rfl (srt_nd 0 rfl) (ws' := w_X6_pastSetApart (xG g) a_this a_this_signs a_this_starts c_this_held c_this_clauses c_this_signs) (Put.m rfl rfl rfl) rfl (rest := []) rfl (Nat.le_of_ble_eq_true rfl) ⟨Nat.zero_le _, Nat.zero_le _⟩ ?_
    refine r_bipush C (pc := 19) dX6_pastSetApart_19 rfl ?_
    refine jn_e (fun (k40 : Int → Option Int) => ∀ (s0_40 : Int), wp (k40 s0_40) K → WW g 0 0 (w_X6_pastSetApart (xG g) a_this a_this_signs a_this_starts c_this_held c_this_clauses c_this_signs) 40 [] [.int (jz s0_40)]) h (fun s0_40 h => ?_) (fun k40 hk40 h => ?_)
    · exact r_iret C (pc := 40) dX6_pastSetApart_40 (hK s0_40 (wp_s h) rfl)
    · refine r_icmp_ne C (pc := 21) 36 dX6_pastSetApart_21 rfl h (fun c21 h => ?_) (fun c21 h => ?_)
      · refine r_iload_n C (pc := 36) dX6_pastSetApart_36 rfl 2 rfl ?_
        obtain ⟨r37, e37, h⟩ := wp_b1 h
        refine b_cSi C (pc := 37) dX6_pastSetApart_37 (c_X6_turned (xl g) (xG g) r4 r37 e37) rfl gX6_pastSetApart_X6_turned ⟨rfl, rfl⟩ 1 hd_X6_turned ⟨Nat.le_of_ble_eq_true rfl, Nat.le_of_ble_eq_true rfl⟩ rfl [] rfl (srt_nd 0 rfl) (ws' := w_X6_pastSetApart (xG g) a_this a_this_signs a_this_starts c_this_held c_this_clauses c_this_signs) (Put.m rfl rfl rfl) rfl (rest := []) rfl (Nat.le_of_ble_eq_true rfl) ⟨Nat.zero_le _, Nat.zero_le _⟩ ?_
        refine r_sub [] rfl ?_
        exact hk40 r37 h
      · refine r_aload_n C (pc := 24) dX6_pastSetApart_24 rfl 0 rfl ?_
        refine r_iload_n C (pc := 25) dX6_pastSetApart_25 rfl 2 rfl ?_
        refine r_iconst C (pc := 26) dX6_pastSetApart_26 ?_
        refine r_iadd C (pc := 27) dX6_pastSetApart_27 ?_
        refine r_iconst C (pc := 28) dX6_pastSetApart_28 ?_
        refine r_iconst C (pc := 29) dX6_pastSetApart_29 ?_
        obtain ⟨r30, e30, h⟩ := wp_b1 h
        refine b_cVi C (pc := 30) dX6_pastSetApart_30 (c_X6_pastDigits (xl g) (xG g) a_this a_this_signs a_this_starts c_this_held c_this_clauses c_this_signs (r4 + 1) 1 2 r30 e30) rfl gX6_pastSetApart_X6_pastDigits ⟨rfl, rfl⟩ 3 hd_X6_pastDigits ⟨Nat.le_of_ble_eq_true rfl, Nat.le_of_ble_eq_true rfl⟩ rfl 0 rfl rfl rfl [0, 1] rfl (srt_nd 0 rfl) (ws' := w_X6_pastSetApart (xG g) a_this a_this_signs a_this_starts c_this_held c_this_clauses c_this_signs) (Put.m rfl rfl rfl) rfl (rest := []) rfl (Nat.le_of_ble_eq_true rfl) ⟨Nat.zero_le _, Nat.zero_le _⟩ ?_
        refine r_goto C (pc := 33) 40 dX6_pastSetApart_33 rfl ?_
        refine r_sub [] rfl ?_
        exact hk40 r30 h
  · refine r_iload_n C (pc := 12) dX6_pastSetApart_12 rfl 2 rfl ?_
    exact r_iret C (pc := 13) dX6_pastSetApart_13 (hK r4 (wp_s h) rfl)
theorem c_X6_pastSetApart (l : Launch) (G : gG) (a_this : Nat) (a_this_signs : Nat) (a_this_starts : Nat) (c_this_held : Int) (c_this_clauses : Int) (c_this_signs : Nat → Int) (p1 : Int) (r : Int) (hf : f_X6_pastSetApart p1 c_this_held c_this_signs = some r) : CTi l yX6_pastSetApart wsX6_pastSetApart rm_X6_pastSetApart G (w_X6_pastSetApart G a_this a_this_signs a_this_starts c_this_held c_this_clauses c_this_signs) [.ref a_this, .int (jz p1)] (jz r) (w_X6_pastSetApart G a_this a_this_signs a_this_starts c_this_held c_this_clauses c_this_signs) := CTi_of (by decide) rfl rfl (Nat.le_of_ble_eq_true rfl) (fun g C hG hl hF => by
    subst hG
    subst hl
    exact k_X6_pastSetApart C a_this a_this_signs a_this_starts c_this_held c_this_clauses c_this_signs p1 (fun x => x = r) (fun r' e => by cases e; exact hF) ⟨_, hf, rfl⟩)

-- TightHulls$Text.pastClause(I)I
def f_X6_pastClause (p1 : Int) (c_this_held : Int) (c_this_signs : Nat → Int) : Option Int := bd1 (f_X6_signAt p1 c_this_held c_this_signs) (fun r2 => if eqI r2 100 = true then (bd1 (f_X6_pastDigits (p1 + 1) 3 4 c_this_held c_this_signs) (fun r72 => some r72)) else (if eqI r2 104 = true then (some (p1 + 1)) else (if eqI r2 109 = true then (bd1 (f_X6_pastDigits (p1 + 1) 1 2 c_this_held c_this_signs) (fun r90 => some r90)) else (if eqI r2 110 = true then (bd1 (f_X6_pastDigits (p1 + 1) 1 1 c_this_held c_this_signs) (fun r62 => some r62)) else (if eqI r2 115 = true then (bd1 (f_X6_pastSetApart (p1 + 1) c_this_held c_this_signs) (fun r80 => some r80)) else (bd1 (f_X6_turned p1) (fun r99 => some r99)))))))
abbrev rm_X6_pastClause : Room := { frames := 3, cells := 0, slots := 0, locals := 67 }
abbrev w_X6_pastClause (G : gG) (a_this : Nat) (a_this_signs : Nat) (a_this_starts : Nat) (c_this_held : Int) (c_this_clauses : Int) (c_this_signs : Nat → Int) : va_W := [(a_this, .inr (6, [.ref a_this_signs, .int (jz c_this_held), .ref a_this_starts, .int (jz c_this_clauses)])), (a_this_signs, aB G 100 c_this_signs)]
theorem hd_X6_pastClause : yX6_pastClause.cls = RX6 ∧ yX6_pastClause.cls ≠ "java/lang/invoke/MethodHandle" ∧ yX6_pastClause.cls ≠ "java/lang/invoke/VarHandle" ∧ (parseMethodDescriptor yX6_pastClause.desc).map (fun d => d.parameters.length) = some 1 := by decide +kernel
set_option maxRecDepth 100000 in
set_option maxHeartbeats 4000000 in
theorem k_X6_pastClause {g : XC} (C : XOk g cX6_pastClause RX6 wsX6_pastClause rm_X6_pastClause 2) (a_this : Nat) (a_this_signs : Nat) (a_this_starts : Nat) (c_this_held : Int) (c_this_clauses : Int) (c_this_signs : Nat → Int) (p1 : Int) (K : Int → Prop) (hK : ∀ (r : Int), K r → (narrow .int (.int (jz r)) = .int (jz r) → FinI g 0 0 (w_X6_pastClause (xG g) a_this a_this_signs a_this_starts c_this_held c_this_clauses c_this_signs) (jz r))) (h : wp (f_X6_pastClause p1 c_this_held c_this_signs) K) : WW g 0 0 (w_X6_pastClause (xG g) a_this a_this_signs a_this_starts c_this_held c_this_clauses c_this_signs) 0 [(0, .ref a_this), (1, .int (jz p1))] [] := by
  unfold f_X6_pastClause at h
  refine r_aload_n C (pc := 0) dX6_pastClause_0 rfl 0 rfl ?_
  refine r_iload_n C (pc := 1) dX6_pastClause_1 rfl 1 rfl ?_
  obtain ⟨r2, e2, h⟩ := wp_b1 h
  refine b_cVi C (pc := 2) dX6_pastClause_2 (c_X6_signAt (xl g) (xG g) a_this a_this_signs a_this_starts c_this_held c_this_clauses c_this_signs p1 r2 e2) rfl gX6_pastClause_X6_signAt ⟨rfl, rfl⟩ 1 hd_X6_signAt ⟨Nat.le_of_ble_eq_true rfl, Nat.le_of_ble_eq_true rfl⟩ rfl 0 rfl rfl rfl [0, 1] rfl (srt_nd 0 rfl) (ws' := w_X6_pastClause (xG g) a_this a_this_signs a_this_starts c_this_held c_this_clauses c_this_signs) (Put.m rfl rfl rfl) rfl (rest := []) rfl (Nat.le_of_ble_eq_true rfl) ⟨Nat.zero_le _, Nat.zero_le _⟩ ?_
  refine sw1 h (fun b5_0 h => ?_) (fun b5_0 h => ?_)
  · refine r_lookup C (pc := 5) 66 dX6_pastClause_5 (by decide) (lk_eq (z := 100) b5_0 _ _ rfl) rfl ?_
    refine r_aload_n C (pc := 66) dX6_pastClause_66 rfl 0 rfl ?_
    refine r_iload_n C (pc := 67) dX6_pastClause_67 rfl 1 rfl ?_
    refine r_iconst C (pc := 68) dX6_pastClause_68 ?_
    refine r_iadd C (pc := 69) dX6_pastClause_69 ?_
    refine r_iconst C (pc := 70) dX6_pastClause_70 ?_
    refine r_iconst C (pc := 71) dX6_pastClause_71 ?_
    obtain ⟨r72, e72, h⟩ := wp_b1 h
    refine b_cVi C (pc := 72) dX6_pastClause_72 (c_X6_pastDigits (xl g) (xG g) a_this a_this_signs a_this_starts c_this_held c_this_clauses c_this_signs (p1 + 1) 3 4 r72 e72) rfl gX6_pastClause_X6_pastDigits ⟨rfl, rfl⟩ 3 hd_X6_pastDigits ⟨Nat.le_of_ble_eq_true rfl, Nat.le_of_ble_eq_true rfl⟩ rfl 0 rfl rfl rfl [0, 1] rfl (srt_nd 0 rfl) (ws' := w_X6_pastClause (xG g) a_this a_this_signs a_this_starts c_this_held c_this_clauses c_this_signs) (Put.m rfl rfl rfl) rfl (rest := []) rfl (Nat.le_of_ble_eq_true rfl) ⟨Nat.zero_le _, Nat.zero_le _⟩ ?_
    exact r_iret C (pc := 75) dX6_pastClause_75 (hK r72 (wp_s h) rfl)
  · refine sw1 h (fun b5_1 h => ?_) (fun b5_1 h => ?_)
    · refine r_lookup C (pc := 5) 94 dX6_pastClause_5 (by decide) ((lk_ne (z := 100) b5_0 rfl).trans (lk_eq (z := 104) b5_1 _ _ rfl)) rfl ?_
      refine r_iload_n C (pc := 94) dX6_pastClause_94 rfl 1 rfl ?_
      refine r_iconst C (pc := 95) dX6_pastClause_95 ?_
      refine r_iadd C (pc := 96) dX6_pastClause_96 ?_
      exact r_iret C (pc := 97) dX6_pastClause_97 (hK (p1 + 1) (wp_s h) rfl)
    · refine sw1 h (fun b5_2 h => ?_) (fun b5_2 h => ?_)
      · refine r_lookup C (pc := 5) 84 dX6_pastClause_5 (by decide) ((lk_ne (z := 100) b5_0 rfl).trans ((lk_ne (z := 104) b5_1 rfl).trans (lk_eq (z := 109) b5_2 _ _ rfl))) rfl ?_
        refine r_aload_n C (pc := 84) dX6_pastClause_84 rfl 0 rfl ?_
        refine r_iload_n C (pc := 85) dX6_pastClause_85 rfl 1 rfl ?_
        refine r_iconst C (pc := 86) dX6_pastClause_86 ?_
        refine r_iadd C (pc := 87) dX6_pastClause_87 ?_
        refine r_iconst C (pc := 88) dX6_pastClause_88 ?_
        refine r_iconst C (pc := 89) dX6_pastClause_89 ?_
        obtain ⟨r90, e90, h⟩ := wp_b1 h
        refine b_cVi C (pc := 90) dX6_pastClause_90 (c_X6_pastDigits (xl g) (xG g) a_this a_this_signs a_this_starts c_this_held c_this_clauses c_this_signs (p1 + 1) 1 2 r90 e90) rfl gX6_pastClause_X6_pastDigits ⟨rfl, rfl⟩ 3 hd_X6_pastDigits ⟨Nat.le_of_ble_eq_true rfl, Nat.le_of_ble_eq_true rfl⟩ rfl 0 rfl rfl rfl [0, 1] rfl (srt_nd 0 rfl) (ws' := w_X6_pastClause (xG g) a_this a_this_signs a_this_starts c_this_held c_this_clauses c_this_signs) (Put.m rfl rfl rfl) rfl (rest := []) rfl (Nat.le_of_ble_eq_true rfl) ⟨Nat.zero_le _, Nat.zero_le _⟩ ?_
        exact r_iret C (pc := 93) dX6_pastClause_93 (hK r90 (wp_s h) rfl)
      · refine sw1 h (fun b5_3 h => ?_) (fun b5_3 h => ?_)
        · refine r_lookup C (pc := 5) 56 dX6_pastClause_5 (by decide) ((lk_ne (z := 100) b5_0 rfl).trans ((lk_ne (z := 104) b5_1 rfl).trans ((lk_ne (z := 109) b5_2 rfl).trans (lk_eq (z := 110) b5_3 _ _ rfl)))) rfl ?_
          refine r_aload_n C (pc := 56) dX6_pastClause_56 rfl 0 rfl ?_
          refine r_iload_n C (pc := 57) dX6_pastClause_57 rfl 1 rfl ?_
          refine r_iconst C (pc := 58) dX6_pastClause_58 ?_
          refine r_iadd C (pc := 59) dX6_pastClause_59 ?_
          refine r_iconst C (pc := 60) dX6_pastClause_60 ?_
          refine r_iconst C (pc := 61) dX6_pastClause_61 ?_
          obtain ⟨r62, e62, h⟩ := wp_b1 h
          refine b_cVi C (pc := 62) dX6_pastClause_62 (c_X6_pastDigits (xl g) (xG g) a_this a_this_signs a_this_starts c_this_held c_this_clauses c_this_signs (p1 + 1) 1 1 r62 e62) rfl gX6_pastClause_X6_pastDigits ⟨rfl, rfl⟩ 3 hd_X6_pastDigits ⟨Nat.le_of_ble_eq_true rfl, Nat.le_of_ble_eq_true rfl⟩ rfl 0 rfl rfl rfl [0, 1] rfl (srt_nd 0 rfl) (ws' := w_X6_pastClause (xG g) a_this a_this_signs a_this_starts c_this_held c_this_clauses c_this_signs) (Put.m rfl rfl rfl) rfl (rest := []) rfl (Nat.le_of_ble_eq_true rfl) ⟨Nat.zero_le _, Nat.zero_le _⟩ ?_
          exact r_iret C (pc := 65) dX6_pastClause_65 (hK r62 (wp_s h) rfl)
        · refine sw1 h (fun b5_4 h => ?_) (fun b5_4 h => ?_)
          · refine r_lookup C (pc := 5) 76 dX6_pastClause_5 (by decide) ((lk_ne (z := 100) b5_0 rfl).trans ((lk_ne (z := 104) b5_1 rfl).trans ((lk_ne (z := 109) b5_2 rfl).trans ((lk_ne (z := 110) b5_3 rfl).trans (lk_eq (z := 115) b5_4 _ _ rfl))))) rfl ?_
            refine r_aload_n C (pc := 76) dX6_pastClause_76 rfl 0 rfl ?_
            refine r_iload_n C (pc := 77) dX6_pastClause_77 rfl 1 rfl ?_
            refine r_iconst C (pc := 78) dX6_pastClause_78 ?_
            refine r_iadd C (pc := 79) dX6_pastClause_79 ?_
            obtain ⟨r80, e80, h⟩ := wp_b1 h
            refine b_cVi C (pc := 80) dX6_pastClause_80 (c_X6_pastSetApart (xl g) (xG g) a_this a_this_signs a_this_starts c_this_held c_this_clauses c_this_signs (p1 + 1) r80 e80) rfl gX6_pastClause_X6_pastSetApart ⟨rfl, rfl⟩ 1 hd_X6_pastSetApart ⟨Nat.le_of_ble_eq_true rfl, Nat.le_of_ble_eq_true rfl⟩ rfl 0 rfl rfl rfl [0, 1] rfl (srt_nd 0 rfl) (ws' := w_X6_pastClause (xG g) a_this a_this_signs a_this_starts c_this_held c_this_clauses c_this_signs) (Put.m rfl rfl rfl) rfl (rest := []) rfl (Nat.le_of_ble_eq_true rfl) ⟨Nat.zero_le _, Nat.zero_le _⟩ ?_
            exact r_iret C (pc := 83) dX6_pastClause_83 (hK r80 (wp_s h) rfl)
          · refine r_lookup C (pc := 5) 98 dX6_pastClause_5 (by decide) ((lk_ne (z := 100) b5_0 rfl).trans ((lk_ne (z := 104) b5_1 rfl).trans ((lk_ne (z := 109) b5_2 rfl).trans ((lk_ne (z := 110) b5_3 rfl).trans ((lk_ne (z := 115) b5_4 rfl).trans (rfl)))))) rfl ?_
            refine r_iload_n C (pc := 98) dX6_pastClause_98 rfl 1 rfl ?_
            obtain ⟨r99, e99, h⟩ := wp_b1 h
            refine b_cSi C (pc := 99) dX6_pastClause_99 (c_X6_turned (xl g) (xG g) p1 r99 e99) rfl gX6_pastClause_X6_turned ⟨rfl, rfl⟩ 1 hd_X6_turned ⟨Nat.le_of_ble_eq_true rfl, Nat.le_of_ble_eq_true rfl⟩ rfl [] rfl (srt_nd 0 rfl) (ws' := w_X6_pastClause (xG g) a_this a_this_signs a_this_starts c_this_held c_this_clauses c_this_signs) (Put.m rfl rfl rfl) rfl (rest := []) rfl (Nat.le_of_ble_eq_true rfl) ⟨Nat.zero_le _, Nat.zero_le _⟩ ?_
            exact r_iret C (pc := 102) dX6_pastClause_102 (hK r99 (wp_s h) rfl)
theorem c_X6_pastClause (l : Launch) (G : gG) (a_this : Nat) (a_this_signs : Nat) (a_this_starts : Nat) (c_this_held : Int) (c_this_clauses : Int) (c_this_signs : Nat → Int) (p1 : Int) (r : Int) (hf : f_X6_pastClause p1 c_this_held c_this_signs = some r) : CTi l yX6_pastClause wsX6_pastClause rm_X6_pastClause G (w_X6_pastClause G a_this a_this_signs a_this_starts c_this_held c_this_clauses c_this_signs) [.ref a_this, .int (jz p1)] (jz r) (w_X6_pastClause G a_this a_this_signs a_this_starts c_this_held c_this_clauses c_this_signs) := CTi_of (by decide) rfl rfl (Nat.le_of_ble_eq_true rfl) (fun g C hG hl hF => by
    subst hG
    subst hl
    exact k_X6_pastClause C a_this a_this_signs a_this_starts c_this_held c_this_clauses c_this_signs p1 (fun x => x = r) (fun r' e => by cases e; exact hF) ⟨_, hf, rfl⟩)

-- TightHulls$Text.firstFault()I
def f_X6_firstFault (c_this_held : Int) (c_this_clauses : Int) (c_this_signs : Nat → Int) (c_this_starts : Nat → Int) : Option (Int × Int × (Nat → Int)) := lq4 (fun (n9 : Int → Int → Int → (Nat → Int) → Option (Int × Int × (Nat → Int))) (v1_9 : Int) (v2_9 : Int) (this_clauses_9 : Int) (this_starts_9 : Nat → Int) => if ltI v2_9 12 = true then (grd (iin v2_9 12) (bd1 (f_X6_pastClause v1_9 c_this_held c_this_signs) (fun r24 => if ltI r24 0 = true then (bd1 (f_X6_turned r24) (fun r33 => some (r33, this_clauses_9, (up this_starts_9 (ix v2_9) v1_9)))) else (lv ((v2_9 + 1)) (fun x41 => if ltI r24 c_this_held = true then (bd1 (f_X6_signAt r24 c_this_held c_this_signs) (fun r56 => if eqI r56 59 = true then (lv ((r24 + 1)) (fun x69 => n9 x69 (v2_9 + 1) x41 (up this_starts_9 (ix v2_9) v1_9))) else (some (r24, x41, (up this_starts_9 (ix v2_9) v1_9))))) else (some ((-1), x41, (up this_starts_9 (ix v2_9) v1_9)))))))) else (some ((v1_9 - 1), this_clauses_9, this_starts_9))) 300 0 0 0 c_this_starts
abbrev rm_X6_firstFault : Room := { frames := 4, cells := 0, slots := 0, locals := 88 }
abbrev w_X6_firstFault (G : gG) (a_this : Nat) (a_this_signs : Nat) (a_this_starts : Nat) (c_this_held : Int) (c_this_clauses : Int) (c_this_signs : Nat → Int) (c_this_starts : Nat → Int) : va_W := [(a_this, .inr (6, [.ref a_this_signs, .int (jz c_this_held), .ref a_this_starts, .int (jz c_this_clauses)])), (a_this_signs, aB G 100 c_this_signs), (a_this_starts, aI G 12 c_this_starts)]
theorem hd_X6_firstFault : yX6_firstFault.cls = RX6 ∧ yX6_firstFault.cls ≠ "java/lang/invoke/MethodHandle" ∧ yX6_firstFault.cls ≠ "java/lang/invoke/VarHandle" ∧ (parseMethodDescriptor yX6_firstFault.desc).map (fun d => d.parameters.length) = some 0 := by decide +kernel
theorem in_X6_firstFault_X6 : ∀ w ∈ u_ws RX6 TX6 4, w ∈ wsX6_firstFault := fun w h => List.mem_cons_of_mem _ (List.mem_append_right _ (h))
theorem pf_X6_firstFault_21 : PF wsX6_firstFault RX6 21 6 3 .int false := ⟨RX6, TX6, 4, tyX6, rfl, in_X6_firstFault_X6, tyX6_ok, nmX6, by decide, List.mem_of_getElem? (i := 1) rfl, rfl, rfl, rfl⟩
theorem gf_X6_firstFault_17 : GF wsX6_firstFault RX6 17 6 2 := ⟨RX6, TX6, 4, rfl, in_X6_firstFault_X6, by decide, List.mem_of_getElem? (i := 2) rfl⟩
theorem gf_X6_firstFault_13 : GF wsX6_firstFault RX6 13 6 1 := ⟨RX6, TX6, 4, rfl, in_X6_firstFault_X6, by decide, List.mem_of_getElem? (i := 3) rfl⟩
set_option maxRecDepth 100000 in
set_option maxHeartbeats 4000000 in
theorem k_X6_firstFault {g : XC} (C : XOk g cX6_firstFault RX6 wsX6_firstFault rm_X6_firstFault 4) (a_this : Nat) (a_this_signs : Nat) (a_this_starts : Nat) (c_this_held : Int) (c_this_clauses : Int) (c_this_signs : Nat → Int) (c_this_starts : Nat → Int)  (K : (Int × Int × (Nat → Int)) → Prop) (hK : ∀ (r : Int) (o0 : Int) (o1 : Nat → Int), K (r, o0, o1) → (narrow .int (.int (jz r)) = .int (jz r) → FinI g 0 0 (w_X6_firstFault (xG g) a_this a_this_signs a_this_starts c_this_held o0 c_this_signs o1) (jz r))) (h : wp (f_X6_firstFault c_this_held c_this_clauses c_this_signs c_this_starts) K) : WW g 0 0 (w_X6_firstFault (xG g) a_this a_this_signs a_this_starts c_this_held c_this_clauses c_this_signs c_this_starts) 0 [(0, .ref a_this)] [] := by
  unfold f_X6_firstFault at h
  refine r_aload_n C (pc := 0) dX6_firstFault_0 rfl 0 rfl ?_
  refine r_iconst C (pc := 1) dX6_firstFault_1 ?_
  refine r_puti C (pc := 2) dX6_firstFault_2 pf_X6_firstFault_21 0 rfl (Nat.le_of_ble_eq_true rfl) (ws' := w_X6_firstFault (xG g) a_this a_this_signs a_this_starts c_this_held 0 c_this_signs c_this_starts) rfl ?_
  refine r_iconst C (pc := 5) dX6_firstFault_5 ?_
  refine r_istore_n C (pc := 6) dX6_firstFault_6 rfl (by decide) (L' := [(0, .ref a_this), (1, .int (jz 0))]) rfl ?_
  refine r_iconst C (pc := 7) dX6_firstFault_7 ?_
  refine r_istore_n C (pc := 8) dX6_firstFault_8 rfl (by decide) (L' := [(0, .ref a_this), (1, .int (jz 0)), (2, .int (jz 0))]) rfl ?_
  refine lq4_e (fun (v1_9 : Int) (v2_9 : Int) (this_clauses_9 : Int) (this_starts_9 : Nat → Int) => WW g 0 0 (w_X6_firstFault (xG g) a_this a_this_signs a_this_starts c_this_held this_clauses_9 c_this_signs this_starts_9) 9 [(0, .ref a_this), (1, .int (jz v1_9)), (2, .int (jz v2_9))] []) h (fun n9 hn9 v1_9 v2_9 this_clauses_9 this_starts_9 h => ?_)
  refine r_iload_n C (pc := 9) dX6_firstFault_9 rfl 2 rfl ?_
  refine r_bipush C (pc := 10) dX6_firstFault_10 rfl ?_
  refine r_icmp_ge C (pc := 12) 76 dX6_firstFault_12 rfl h (fun c12 h => ?_) (fun c12 h => ?_)
  · refine r_iload_n C (pc := 76) dX6_firstFault_76 rfl 1 rfl ?_
    refine r_iconst C (pc := 77) dX6_firstFault_77 ?_
    refine r_isub C (pc := 78) dX6_firstFault_78 ?_
    exact r_iret C (pc := 79) dX6_firstFault_79 (hK (v1_9 - 1) this_clauses_9 this_starts_9 (wp_s h) rfl)
  · refine r_aload_n C (pc := 15) dX6_firstFault_15 rfl 0 rfl ?_
    refine r_get C (pc := 16) dX6_firstFault_16 gf_X6_firstFault_17 0 rfl rfl ?_
    refine r_iload_n C (pc := 19) dX6_firstFault_19 rfl 2 rfl ?_
    refine r_iload_n C (pc := 20) dX6_firstFault_20 rfl 1 rfl ?_
    refine r_iast C (pc := 21) dX6_firstFault_21 h 2 rfl (ws' := w_X6_firstFault (xG g) a_this a_this_signs a_this_starts c_this_held this_clauses_9 c_this_signs (up this_starts_9 (ix v2_9) v1_9)) rfl (fun h => ?_)
    refine r_aload_n C (pc := 22) dX6_firstFault_22 rfl 0 rfl ?_
    refine r_iload_n C (pc := 23) dX6_firstFault_23 rfl 1 rfl ?_
    obtain ⟨r24, e24, h⟩ := wp_b1 h
    refine b_cVi C (pc := 24) dX6_firstFault_24 (c_X6_pastClause (xl g) (xG g) a_this a_this_signs a_this_starts c_this_held this_clauses_9 c_this_signs v1_9 r24 e24) rfl gX6_firstFault_X6_pastClause ⟨rfl, rfl⟩ 1 hd_X6_pastClause ⟨Nat.le_of_ble_eq_true rfl, Nat.le_of_ble_eq_true rfl⟩ rfl 0 rfl rfl rfl [0, 1] rfl (srt_nd 0 rfl) (ws' := w_X6_firstFault (xG g) a_this a_this_signs a_this_starts c_this_held this_clauses_9 c_this_signs (up this_starts_9 (ix v2_9) v1_9)) (Put.m rfl rfl rfl) rfl (rest := []) rfl (Nat.le_of_ble_eq_true rfl) ⟨Nat.zero_le _, Nat.zero_le _⟩ ?_
    refine r_istore_n C (pc := 27) dX6_firstFault_27 rfl (by decide) (L' := [(0, .ref a_this), (1, .int (jz v1_9)), (2, .int (jz v2_9)), (3, .int (jz r24))]) rfl ?_
    refine r_iload_n C (pc := 28) dX6_firstFault_28 rfl 3 rfl ?_
    refine r_if_ge C (pc := 29) 37 dX6_firstFault_29 rfl h (fun c29 h => ?_) (fun c29 h => ?_)
    · refine r_aload_n C (pc := 37) dX6_firstFault_37 rfl 0 rfl ?_
      refine r_iload_n C (pc := 38) dX6_firstFault_38 rfl 2 rfl ?_
      refine r_iconst C (pc := 39) dX6_firstFault_39 ?_
      refine r_iadd C (pc := 40) dX6_firstFault_40 ?_
      refine r_let h (fun x41 h => ?_)
      refine r_puti C (pc := 41) dX6_firstFault_41 pf_X6_firstFault_21 0 rfl (Nat.le_of_ble_eq_true rfl) (ws' := w_X6_firstFault (xG g) a_this a_this_signs a_this_starts c_this_held x41 c_this_signs (up this_starts_9 (ix v2_9) v1_9)) rfl ?_
      refine r_iload_n C (pc := 44) dX6_firstFault_44 rfl 3 rfl ?_
      refine r_aload_n C (pc := 45) dX6_firstFault_45 rfl 0 rfl ?_
      refine r_get C (pc := 46) dX6_firstFault_46 gf_X6_firstFault_13 0 rfl rfl ?_
      refine r_icmp_lt C (pc := 49) 54 dX6_firstFault_49 rfl h (fun c49 h => ?_) (fun c49 h => ?_)
      · refine r_aload_n C (pc := 54) dX6_firstFault_54 rfl 0 rfl ?_
        refine r_iload_n C (pc := 55) dX6_firstFault_55 rfl 3 rfl ?_
        obtain ⟨r56, e56, h⟩ := wp_b1 h
        refine b_cVi C (pc := 56) dX6_firstFault_56 (c_X6_signAt (xl g) (xG g) a_this a_this_signs a_this_starts c_this_held x41 c_this_signs r24 r56 e56) rfl gX6_firstFault_X6_signAt ⟨rfl, rfl⟩ 1 hd_X6_signAt ⟨Nat.le_of_ble_eq_true rfl, Nat.le_of_ble_eq_true rfl⟩ rfl 0 rfl rfl rfl [0, 1] rfl (srt_nd 0 rfl) (ws' := w_X6_firstFault (xG g) a_this a_this_signs a_this_starts c_this_held x41 c_this_signs (up this_starts_9 (ix v2_9) v1_9)) (Put.m rfl rfl rfl) rfl (rest := []) rfl (Nat.le_of_ble_eq_true rfl) ⟨Nat.zero_le _, Nat.zero_le _⟩ ?_
        refine r_bipush C (pc := 59) dX6_firstFault_59 rfl ?_
        refine r_icmp_eq C (pc := 61) 66 dX6_firstFault_61 rfl h (fun c61 h => ?_) (fun c61 h => ?_)
        · refine r_iload_n C (pc := 66) dX6_firstFault_66 rfl 3 rfl ?_
          refine r_iconst C (pc := 67) dX6_firstFault_67 ?_
          refine r_iadd C (pc := 68) dX6_firstFault_68 ?_
          refine r_let h (fun x69 h => ?_)
          refine r_istore_n C (pc := 69) dX6_firstFault_69 rfl (by decide) (L' := [(0, .ref a_this), (1, .int (jz x69)), (2, .int (jz v2_9)), (3, .int (jz r24))]) rfl ?_
          refine r_iinc C (pc := 70) dX6_firstFault_70 2 rfl (by decide) (L' := [(0, .ref a_this), (1, .int (jz x69)), (2, .int (jz (v2_9 + 1))), (3, .int (jz r24))]) rfl ?_
          refine r_goto C (pc := 73) 9 dX6_firstFault_73 rfl ?_
          refine r_sub [0, 1, 2] rfl ?_
          exact hn9 x69 (v2_9 + 1) x41 (up this_starts_9 (ix v2_9) v1_9) h
        · refine r_iload_n C (pc := 64) dX6_firstFault_64 rfl 3 rfl ?_
          exact r_iret C (pc := 65) dX6_firstFault_65 (hK r24 x41 (up this_starts_9 (ix v2_9) v1_9) (wp_s h) rfl)
      · refine r_iconst C (pc := 52) dX6_firstFault_52 ?_
        exact r_iret C (pc := 53) dX6_firstFault_53 (hK (-1) x41 (up this_starts_9 (ix v2_9) v1_9) (wp_s h) rfl)
    · refine r_iload_n C (pc := 32) dX6_firstFault_32 rfl 3 rfl ?_
      obtain ⟨r33, e33, h⟩ := wp_b1 h
      refine b_cSi C (pc := 33) dX6_firstFault_33 (c_X6_turned (xl g) (xG g) r24 r33 e33) rfl gX6_firstFault_X6_turned ⟨rfl, rfl⟩ 1 hd_X6_turned ⟨Nat.le_of_ble_eq_true rfl, Nat.le_of_ble_eq_true rfl⟩ rfl [] rfl (srt_nd 0 rfl) (ws' := w_X6_firstFault (xG g) a_this a_this_signs a_this_starts c_this_held this_clauses_9 c_this_signs (up this_starts_9 (ix v2_9) v1_9)) (Put.m rfl rfl rfl) rfl (rest := []) rfl (Nat.le_of_ble_eq_true rfl) ⟨Nat.zero_le _, Nat.zero_le _⟩ ?_
      exact r_iret C (pc := 36) dX6_firstFault_36 (hK r33 this_clauses_9 (up this_starts_9 (ix v2_9) v1_9) (wp_s h) rfl)
theorem c_X6_firstFault (l : Launch) (G : gG) (a_this : Nat) (a_this_signs : Nat) (a_this_starts : Nat) (c_this_held : Int) (c_this_clauses : Int) (c_this_signs : Nat → Int) (c_this_starts : Nat → Int) (r : Int) (o0 : Int) (o1 : Nat → Int) (hf : f_X6_firstFault c_this_held c_this_clauses c_this_signs c_this_starts = some (r, o0, o1)) : CTi l yX6_firstFault wsX6_firstFault rm_X6_firstFault G (w_X6_firstFault G a_this a_this_signs a_this_starts c_this_held c_this_clauses c_this_signs c_this_starts) [.ref a_this] (jz r) (w_X6_firstFault G a_this a_this_signs a_this_starts c_this_held o0 c_this_signs o1) := CTi_of (by decide) rfl rfl (Nat.le_of_ble_eq_true rfl) (fun g C hG hl hF => by
    subst hG
    subst hl
    exact k_X6_firstFault C a_this a_this_signs a_this_starts c_this_held c_this_clauses c_this_signs c_this_starts (fun x => x = (r, o0, o1)) (fun r' o0' o1' e => by cases e; exact hF) ⟨_, hf, rfl⟩)

-- TightHulls$Text.digitAt(I)I
def f_X6_digitAt (p1 : Int) (c_this_held : Int) (c_this_signs : Nat → Int) : Option Int := bd1 (f_X6_signAt p1 c_this_held c_this_signs) (fun r2 => bd1 (f_X6_isDigit r2) (fun r7 => jn (fun (s0_21 : Int) => some s0_21) (fun (k21 : Int → Option Int) => if eqI r7 0 = true then (k21 0) else (k21 (r2 - 48)))))
abbrev rm_X6_digitAt : Room := { frames := 1, cells := 0, slots := 0, locals := 21 }
abbrev w_X6_digitAt (G : gG) (a_this : Nat) (a_this_signs : Nat) (a_this_starts : Nat) (c_this_held : Int) (c_this_clauses : Int) (c_this_signs : Nat → Int) : va_W := [(a_this, .inr (6, [.ref a_this_signs, .int (jz c_this_held), .ref a_this_starts, .int (jz c_this_clauses)])), (a_this_signs, aB G 100 c_this_signs)]
theorem hd_X6_digitAt : yX6_digitAt.cls = RX6 ∧ yX6_digitAt.cls ≠ "java/lang/invoke/MethodHandle" ∧ yX6_digitAt.cls ≠ "java/lang/invoke/VarHandle" ∧ (parseMethodDescriptor yX6_digitAt.desc).map (fun d => d.parameters.length) = some 1 := by decide +kernel
set_option maxRecDepth 100000 in
set_option maxHeartbeats 4000000 in
theorem k_X6_digitAt {g : XC} (C : XOk g cX6_digitAt RX6 wsX6_digitAt rm_X6_digitAt 3) (a_this : Nat) (a_this_signs : Nat) (a_this_starts : Nat) (c_this_held : Int) (c_this_clauses : Int) (c_this_signs : Nat → Int) (p1 : Int) (K : Int → Prop) (hK : ∀ (r : Int), K r → (narrow .int (.int (jz r)) = .int (jz r) → FinI g 0 0 (w_X6_digitAt (xG g) a_this a_this_signs a_this_starts c_this_held c_this_clauses c_this_signs) (jz r))) (h : wp (f_X6_digitAt p1 c_this_held c_this_signs) K) : WW g 0 0 (w_X6_digitAt (xG g) a_this a_this_signs a_this_starts c_this_held c_this_clauses c_this_signs) 0 [(0, .ref a_this), (1, .int (jz p1))] [] := by
  unfold f_X6_digitAt at h
  refine r_aload_n C (pc := 0) dX6_digitAt_0 rfl 0 rfl ?_
  refine r_iload_n C (pc := 1) dX6_digitAt_1 rfl 1 rfl ?_
  obtain ⟨r2, e2, h⟩ := wp_b1 h
  refine b_cVi C (pc := 2) dX6_digitAt_2 (c_X6_signAt (xl g) (xG g) a_this a_this_signs a_this_starts c_this_held c_this_clauses c_this_signs p1 r2 e2) rfl gX6_digitAt_X6_signAt ⟨rfl, rfl⟩ 1 hd_X6_signAt ⟨Nat.le_of_ble_eq_true rfl, Nat.le_of_ble_eq_true rfl⟩ rfl 0 rfl rfl rfl [0, 1] rfl (srt_nd 0 rfl) (ws' := w_X6_digitAt (xG g) a_this a_this_signs a_this_starts c_this_held c_this_clauses c_this_signs) (Put.m rfl rfl rfl) rfl (rest := []) rfl (Nat.le_of_ble_eq_true rfl) ⟨Nat.zero_le _, Nat.zero_le _⟩ ?_
  refine r_istore_n C (pc := 5) dX6_digitAt_5 rfl (by decide) (L' := [(0, .ref a_this), (1, .int (jz p1)), (2, .int (jz r2))]) rfl ?_
  refine r_iload_n C (pc := 6) dX6_digitAt_6 rfl 2 rfl ?_
  obtain ⟨r7, e7, h⟩ := wp_b1 h
  refine b_cSi C (pc := 7) dX6_digitAt_7 (c_X6_isDigit (xl g) (xG g) r2 r7 e7) rfl gX6_digitAt_X6_isDigit ⟨rfl, rfl⟩ 1 hd_X6_isDigit ⟨Nat.le_of_ble_eq_true rfl, Nat.le_of_ble_eq_true rfl⟩ rfl [] rfl (srt_nd 0 rfl) (ws' := w_X6_digitAt (xG g) a_this a_this_signs a_this_starts c_this_held c_this_clauses c_this_signs) (Put.m rfl rfl rfl) rfl (rest := []) rfl (Nat.le_of_ble_eq_true rfl) ⟨Nat.zero_le _, Nat.zero_le _⟩ ?_
  refine jn_e (fun (k21 : Int → Option Int) => ∀ (s0_21 : Int), wp (k21 s0_21) K → WW g 0 0 (w_X6_digitAt (xG g) a_this a_this_signs a_this_starts c_this_held c_this_clauses c_this_signs) 21 [] [.int (jz s0_21)]) h (fun s0_21 h => ?_) (fun k21 hk21 h => ?_)
  · exact r_iret C (pc := 21) dX6_digitAt_21 (hK s0_21 (wp_s h) rfl)
  · refine r_if_eq C (pc := 10) 20 dX6_digitAt_10 rfl h (fun c10 h => ?_) (fun c10 h => ?_)
    · refine r_iconst C (pc := 20) dX6_digitAt_20 ?_
      refine r_sub [] rfl ?_
      exact hk21 0 h
    · refine r_iload_n C (pc := 13) dX6_digitAt_13 rfl 2 rfl ?_
      refine r_bipush C (pc := 14) dX6_digitAt_14 rfl ?_
      refine r_isub C (pc := 16) dX6_digitAt_16 ?_
      refine r_goto C (pc := 17) 21 dX6_digitAt_17 rfl ?_
      refine r_sub [] rfl ?_
      exact hk21 (r2 - 48) h
theorem c_X6_digitAt (l : Launch) (G : gG) (a_this : Nat) (a_this_signs : Nat) (a_this_starts : Nat) (c_this_held : Int) (c_this_clauses : Int) (c_this_signs : Nat → Int) (p1 : Int) (r : Int) (hf : f_X6_digitAt p1 c_this_held c_this_signs = some r) : CTi l yX6_digitAt wsX6_digitAt rm_X6_digitAt G (w_X6_digitAt G a_this a_this_signs a_this_starts c_this_held c_this_clauses c_this_signs) [.ref a_this, .int (jz p1)] (jz r) (w_X6_digitAt G a_this a_this_signs a_this_starts c_this_held c_this_clauses c_this_signs) := CTi_of (by decide) rfl rfl (Nat.le_of_ble_eq_true rfl) (fun g C hG hl hF => by
    subst hG
    subst hl
    exact k_X6_digitAt C a_this a_this_signs a_this_starts c_this_held c_this_clauses c_this_signs p1 (fun x => x = r) (fun r' e => by cases e; exact hF) ⟨_, hf, rfl⟩)

-- TightHulls$Text.numberAt(II)I
def f_X6_numberAt (p1 : Int) (p2 : Int) (c_this_held : Int) (c_this_signs : Nat → Int) : Option Int := lq2 (fun (n5 : Int → Int → Option Int) (v3_5 : Int) (v4_5 : Int) => if ltI v4_5 p2 = true then (bd1 (f_X6_digitAt v4_5 c_this_held c_this_signs) (fun r18 => lv (((10 * v3_5) + r18)) (fun x22 => n5 x22 (v4_5 + 1)))) else (some v3_5)) 300 0 p1
abbrev rm_X6_numberAt : Room := { frames := 2, cells := 0, slots := 0, locals := 43 }
abbrev w_X6_numberAt (G : gG) (a_this : Nat) (a_this_signs : Nat) (a_this_starts : Nat) (c_this_held : Int) (c_this_clauses : Int) (c_this_signs : Nat → Int) : va_W := [(a_this, .inr (6, [.ref a_this_signs, .int (jz c_this_held), .ref a_this_starts, .int (jz c_this_clauses)])), (a_this_signs, aB G 100 c_this_signs)]
theorem hd_X6_numberAt : yX6_numberAt.cls = RX6 ∧ yX6_numberAt.cls ≠ "java/lang/invoke/MethodHandle" ∧ yX6_numberAt.cls ≠ "java/lang/invoke/VarHandle" ∧ (parseMethodDescriptor yX6_numberAt.desc).map (fun d => d.parameters.length) = some 2 := by decide +kernel
set_option maxRecDepth 100000 in
set_option maxHeartbeats 4000000 in
theorem k_X6_numberAt {g : XC} (C : XOk g cX6_numberAt RX6 wsX6_numberAt rm_X6_numberAt 5) (a_this : Nat) (a_this_signs : Nat) (a_this_starts : Nat) (c_this_held : Int) (c_this_clauses : Int) (c_this_signs : Nat → Int) (p1 : Int) (p2 : Int) (K : Int → Prop) (hK : ∀ (r : Int), K r → (narrow .int (.int (jz r)) = .int (jz r) → FinI g 0 0 (w_X6_numberAt (xG g) a_this a_this_signs a_this_starts c_this_held c_this_clauses c_this_signs) (jz r))) (h : wp (f_X6_numberAt p1 p2 c_this_held c_this_signs) K) : WW g 0 0 (w_X6_numberAt (xG g) a_this a_this_signs a_this_starts c_this_held c_this_clauses c_this_signs) 0 [(0, .ref a_this), (1, .int (jz p1)), (2, .int (jz p2))] [] := by
  unfold f_X6_numberAt at h
  refine r_iconst C (pc := 0) dX6_numberAt_0 ?_
  refine r_istore_n C (pc := 1) dX6_numberAt_1 rfl (by decide) (L' := [(0, .ref a_this), (1, .int (jz p1)), (2, .int (jz p2)), (3, .int (jz 0))]) rfl ?_
  refine r_iload_n C (pc := 2) dX6_numberAt_2 rfl 1 rfl ?_
  refine r_istore C (pc := 3) dX6_numberAt_3 (by decide) (L' := [(0, .ref a_this), (1, .int (jz p1)), (2, .int (jz p2)), (3, .int (jz 0)), (4, .int (jz p1))]) rfl ?_
  refine r_sub [0, 2, 3, 4] rfl ?_
  refine lq2_e (fun (v3_5 : Int) (v4_5 : Int) => WW g 0 0 (w_X6_numberAt (xG g) a_this a_this_signs a_this_starts c_this_held c_this_clauses c_this_signs) 5 [(0, .ref a_this), (2, .int (jz p2)), (3, .int (jz v3_5)), (4, .int (jz v4_5))] []) h (fun n5 hn5 v3_5 v4_5 h => ?_)
  refine r_iload C (pc := 5) dX6_numberAt_5 3 rfl ?_
  refine r_iload_n C (pc := 7) dX6_numberAt_7 rfl 1 rfl ?_
  refine r_icmp_ge C (pc := 8) 29 dX6_numberAt_8 rfl h (fun c8 h => ?_) (fun c8 h => ?_)
  · refine r_iload_n C (pc := 29) dX6_numberAt_29 rfl 2 rfl ?_
    exact r_iret C (pc := 30) dX6_numberAt_30 (hK v3_5 (wp_s h) rfl)
  · refine r_bipush C (pc := 11) dX6_numberAt_11 rfl ?_
    refine r_iload_n C (pc := 13) dX6_numberAt_13 rfl 2 rfl ?_
    refine r_imul C (pc := 14) dX6_numberAt_14 ?_
    refine r_aload_n C (pc := 15) dX6_numberAt_15 rfl 0 rfl ?_
    refine r_iload C (pc := 16) dX6_numberAt_16 3 rfl ?_
    obtain ⟨r18, e18, h⟩ := wp_b1 h
    refine b_cVi C (pc := 18) dX6_numberAt_18 (c_X6_digitAt (xl g) (xG g) a_this a_this_signs a_this_starts c_this_held c_this_clauses c_this_signs v4_5 r18 e18) rfl gX6_numberAt_X6_digitAt ⟨rfl, rfl⟩ 1 hd_X6_digitAt ⟨Nat.le_of_ble_eq_true rfl, Nat.le_of_ble_eq_true rfl⟩ rfl 0 rfl rfl rfl [0, 1] rfl (srt_nd 0 rfl) (ws' := w_X6_numberAt (xG g) a_this a_this_signs a_this_starts c_this_held c_this_clauses c_this_signs) (Put.m rfl rfl rfl) rfl (rest := [.int (jz (10 * v3_5))]) rfl (Nat.le_of_ble_eq_true rfl) ⟨Nat.zero_le _, Nat.zero_le _⟩ ?_
    refine r_iadd C (pc := 21) dX6_numberAt_21 ?_
    refine r_let h (fun x22 h => ?_)
    refine r_istore_n C (pc := 22) dX6_numberAt_22 rfl (by decide) (L' := [(0, .ref a_this), (2, .int (jz p2)), (3, .int (jz x22)), (4, .int (jz v4_5))]) rfl ?_
    refine r_iinc C (pc := 23) dX6_numberAt_23 3 rfl (by decide) (L' := [(0, .ref a_this), (2, .int (jz p2)), (3, .int (jz x22)), (4, .int (jz (v4_5 + 1)))]) rfl ?_
    refine r_goto C (pc := 26) 5 dX6_numberAt_26 rfl ?_
    exact hn5 x22 (v4_5 + 1) h
theorem c_X6_numberAt (l : Launch) (G : gG) (a_this : Nat) (a_this_signs : Nat) (a_this_starts : Nat) (c_this_held : Int) (c_this_clauses : Int) (c_this_signs : Nat → Int) (p1 : Int) (p2 : Int) (r : Int) (hf : f_X6_numberAt p1 p2 c_this_held c_this_signs = some r) : CTi l yX6_numberAt wsX6_numberAt rm_X6_numberAt G (w_X6_numberAt G a_this a_this_signs a_this_starts c_this_held c_this_clauses c_this_signs) [.ref a_this, .int (jz p1), .int (jz p2)] (jz r) (w_X6_numberAt G a_this a_this_signs a_this_starts c_this_held c_this_clauses c_this_signs) := CTi_of (by decide) rfl rfl (Nat.le_of_ble_eq_true rfl) (fun g C hG hl hF => by
    subst hG
    subst hl
    exact k_X6_numberAt C a_this a_this_signs a_this_starts c_this_held c_this_clauses c_this_signs p1 p2 (fun x => x = r) (fun r' e => by cases e; exact hF) ⟨_, hf, rfl⟩)

-- TightHulls$Text.doSetApart(LTightHulls$Setup;II)Z
def f_X6_doSetApart (p2 : Int) (p3 : Int) (c_this_held : Int) (c_this_signs : Nat → Int) (c_p1_table_size : Int) (c_p1_table_gaps : Nat → Int) : Option (Int × (Nat → Int)) := lq2 (fun (n6 : Int → Int → Option (Int × (Nat → Int))) (v4_6 : Int) (v5_6 : Int) => jn (bd1 (f_X6_numberAt (v5_6 + 1) p3 c_this_held c_this_signs) (fun r51 => bd2 (f_X2_setApart v4_6 r51 c_p1_table_size c_p1_table_gaps) (fun r54 p1_table_gaps_54 => grd (isB r54) (some (r54, p1_table_gaps_54))))) (fun (k42 : Option (Int × (Nat → Int))) => if ltI v5_6 p3 = true then (bd1 (f_X6_signAt v5_6 c_this_held c_this_signs) (fun r15 => if eqI r15 32 = true then k42 else (bd1 (f_X6_digitAt v5_6 c_this_held c_this_signs) (fun r29 => lv ((orI v4_6 (shlI 1 r29))) (fun x34 => n6 x34 (v5_6 + 1)))))) else k42)) 300 0 p2
abbrev rm_X6_doSetApart : Room := { frames := 3, cells := 0, slots := 0, locals := 84 }
abbrev w_X6_doSetApart (G : gG) (a_this : Nat) (a_this_signs : Nat) (a_this_starts : Nat) (a_p1 : Nat) (a_p1_table : Nat) (a_p1_numbers : Nat) (a_p1_images : Nat) (a_p1_seen : Nat) (a_p1_events : Nat) (a_p1_book : Nat) (a_p1_table_gaps : Nat) (c_this_held : Int) (c_this_clauses : Int) (c_this_signs : Nat → Int) (c_p1_table_size : Int) (c_p1_table_gaps : Nat → Int) : va_W := [(a_this, .inr (6, [.ref a_this_signs, .int (jz c_this_held), .ref a_this_starts, .int (jz c_this_clauses)])), (a_this_signs, aB G 100 c_this_signs), (a_p1, .inr (2, [.ref a_p1_table, .ref a_p1_numbers, .ref a_p1_images, .ref a_p1_seen, .ref a_p1_events, .ref a_p1_book])), (a_p1_table, .inr (4, [.int (jz c_p1_table_size), .ref a_p1_table_gaps])), (a_p1_table_gaps, aI G 25 c_p1_table_gaps)]
theorem hd_X6_doSetApart : yX6_doSetApart.cls = RX6 ∧ yX6_doSetApart.cls ≠ "java/lang/invoke/MethodHandle" ∧ yX6_doSetApart.cls ≠ "java/lang/invoke/VarHandle" ∧ (parseMethodDescriptor yX6_doSetApart.desc).map (fun d => d.parameters.length) = some 3 := by decide +kernel
set_option maxRecDepth 100000 in
set_option maxHeartbeats 4000000 in
theorem k_X6_doSetApart {g : XC} (C : XOk g cX6_doSetApart RX6 wsX6_doSetApart rm_X6_doSetApart 6) (a_this : Nat) (a_this_signs : Nat) (a_this_starts : Nat) (a_p1 : Nat) (a_p1_table : Nat) (a_p1_numbers : Nat) (a_p1_images : Nat) (a_p1_seen : Nat) (a_p1_events : Nat) (a_p1_book : Nat) (a_p1_table_gaps : Nat) (c_this_held : Int) (c_this_clauses : Int) (c_this_signs : Nat → Int) (c_p1_table_size : Int) (c_p1_table_gaps : Nat → Int) (p2 : Int) (p3 : Int) (K : (Int × (Nat → Int)) → Prop) (hK : ∀ (r : Int) (o0 : Nat → Int), K (r, o0) → (narrow .boolean (.int (jz r)) = .int (jz r) → FinI g 0 0 (w_X6_doSetApart (xG g) a_this a_this_signs a_this_starts a_p1 a_p1_table a_p1_numbers a_p1_images a_p1_seen a_p1_events a_p1_book a_p1_table_gaps c_this_held c_this_clauses c_this_signs c_p1_table_size o0) (jz r))) (h : wp (f_X6_doSetApart p2 p3 c_this_held c_this_signs c_p1_table_size c_p1_table_gaps) K) : WW g 0 0 (w_X6_doSetApart (xG g) a_this a_this_signs a_this_starts a_p1 a_p1_table a_p1_numbers a_p1_images a_p1_seen a_p1_events a_p1_book a_p1_table_gaps c_this_held c_this_clauses c_this_signs c_p1_table_size c_p1_table_gaps) 0 [(0, .ref a_this), (1, .ref a_p1), (2, .int (jz p2)), (3, .int (jz p3))] [] := by
  unfold f_X6_doSetApart at h
  refine r_iconst C (pc := 0) dX6_doSetApart_0 ?_
  refine r_istore C (pc := 1) dX6_doSetApart_1 (by decide) (L' := [(0, .ref a_this), (1, .ref a_p1), (2, .int (jz p2)), (3, .int (jz p3)), (4, .int (jz 0))]) rfl ?_
  refine r_iload_n C (pc := 3) dX6_doSetApart_3 rfl 2 rfl ?_
  refine r_istore C (pc := 4) dX6_doSetApart_4 (by decide) (L' := [(0, .ref a_this), (1, .ref a_p1), (2, .int (jz p2)), (3, .int (jz p3)), (4, .int (jz 0)), (5, .int (jz p2))]) rfl ?_
  refine r_sub [0, 1, 3, 4, 5] rfl ?_
  refine lq2_e (fun (v4_6 : Int) (v5_6 : Int) => WW g 0 0 (w_X6_doSetApart (xG g) a_this a_this_signs a_this_starts a_p1 a_p1_table a_p1_numbers a_p1_images a_p1_seen a_p1_events a_p1_book a_p1_table_gaps c_this_held c_this_clauses c_this_signs c_p1_table_size c_p1_table_gaps) 6 [(0, .ref a_this), (1, .ref a_p1), (3, .int (jz p3)), (4, .int (jz v4_6)), (5, .int (jz v5_6))] []) h (fun n6 hn6 v4_6 v5_6 h => ?_)
  refine r_iload C (pc := 6) dX6_doSetApart_6 4 rfl ?_
  refine r_iload_n C (pc := 8) dX6_doSetApart_8 rfl 2 rfl ?_
  refine jn_e (fun (k42 : Option (Int × (Nat → Int))) => wp (k42) K → WW g 0 0 (w_X6_doSetApart (xG g) a_this a_this_signs a_this_starts a_p1 a_p1_table a_p1_numbers a_p1_images a_p1_seen a_p1_events a_p1_book a_p1_table_gaps c_this_held c_this_clauses c_this_signs c_p1_table_size c_p1_table_gaps) 42 [(0, .ref a_this), (1, .ref a_p1), (3, .int (jz p3)), (4, .int (jz v4_6)), (5, .int (jz v5_6))] []) h (fun h => ?_) (fun k42 hk42 h => ?_)
  · refine r_aload_n C (pc := 42) dX6_doSetApart_42 rfl 1 rfl ?_
    refine r_iload C (pc := 43) dX6_doSetApart_43 3 rfl ?_
    refine r_aload_n C (pc := 45) dX6_doSetApart_45 rfl 0 rfl ?_
    refine r_iload C (pc := 46) dX6_doSetApart_46 4 rfl ?_
    refine r_iconst C (pc := 48) dX6_doSetApart_48 ?_
    refine r_iadd C (pc := 49) dX6_doSetApart_49 ?_
    refine r_iload_n C (pc := 50) dX6_doSetApart_50 rfl 2 rfl ?_
    obtain ⟨r51, e51, h⟩ := wp_b1 h
    refine b_cVi C (pc := 51) dX6_doSetApart_51 (c_X6_numberAt (xl g) (xG g) a_this a_this_signs a_this_starts c_this_held c_this_clauses c_this_signs (v5_6 + 1) p3 r51 e51) rfl gX6_doSetApart_X6_numberAt ⟨rfl, rfl⟩ 2 hd_X6_numberAt ⟨Nat.le_of_ble_eq_true rfl, Nat.le_of_ble_eq_true rfl⟩ rfl 0 rfl rfl rfl [0, 1] rfl (srt_nd 0 rfl) (ws' := w_X6_doSetApart (xG g) a_this a_this_signs a_this_starts a_p1 a_p1_table a_p1_numbers a_p1_images a_p1_seen a_p1_events a_p1_book a_p1_table_gaps c_this_held c_this_clauses c_this_signs c_p1_table_size c_p1_table_gaps) (Put.m rfl rfl rfl) rfl (rest := [.int (jz v4_6), .ref a_p1]) rfl (Nat.le_of_ble_eq_true rfl) ⟨Nat.zero_le _, Nat.zero_le _⟩ ?_
    obtain ⟨r54, p1_table_gaps_54, e54, h⟩ := wp_b2 h
    refine b_cVi C (pc := 54) dX6_doSetApart_54 (c_X2_setApart (xl g) (xG g) a_p1 a_p1_table a_p1_numbers a_p1_images a_p1_seen a_p1_events a_p1_book a_p1_table_gaps c_p1_table_size c_p1_table_gaps v4_6 r51 r54 p1_table_gaps_54 e54) rfl gX6_doSetApart_X2_setApart ⟨rfl, rfl⟩ 2 hd_X2_setApart ⟨Nat.le_of_ble_eq_true rfl, Nat.le_of_ble_eq_true rfl⟩ rfl 2 rfl rfl rfl [2, 3, 4] rfl (srt_nd 0 rfl) (ws' := w_X6_doSetApart (xG g) a_this a_this_signs a_this_starts a_p1 a_p1_table a_p1_numbers a_p1_images a_p1_seen a_p1_events a_p1_book a_p1_table_gaps c_this_held c_this_clauses c_this_signs c_p1_table_size p1_table_gaps_54) (Put.m rfl rfl rfl) rfl (rest := []) rfl (Nat.le_of_ble_eq_true rfl) ⟨Nat.zero_le _, Nat.zero_le _⟩ ?_
    exact r_iret C (pc := 57) dX6_doSetApart_57 (hK r54 p1_table_gaps_54 (wp_s (wp_g h).2) (nB (wp_g h).1).1)
  · refine r_icmp_ge C (pc := 9) 42 dX6_doSetApart_9 rfl h (fun c9 h => ?_) (fun c9 h => ?_)
    · exact hk42 h
    · refine r_aload_n C (pc := 12) dX6_doSetApart_12 rfl 0 rfl ?_
      refine r_iload C (pc := 13) dX6_doSetApart_13 4 rfl ?_
      obtain ⟨r15, e15, h⟩ := wp_b1 h
      refine b_cVi C (pc := 15) dX6_doSetApart_15 (c_X6_signAt (xl g) (xG g) a_this a_this_signs a_this_starts c_this_held c_this_clauses c_this_signs v5_6 r15 e15) rfl gX6_doSetApart_X6_signAt ⟨rfl, rfl⟩ 1 hd_X6_signAt ⟨Nat.le_of_ble_eq_true rfl, Nat.le_of_ble_eq_true rfl⟩ rfl 0 rfl rfl rfl [0, 1] rfl (srt_nd 0 rfl) (ws' := w_X6_doSetApart (xG g) a_this a_this_signs a_this_starts a_p1 a_p1_table a_p1_numbers a_p1_images a_p1_seen a_p1_events a_p1_book a_p1_table_gaps c_this_held c_this_clauses c_this_signs c_p1_table_size c_p1_table_gaps) (Put.m rfl rfl rfl) rfl (rest := []) rfl (Nat.le_of_ble_eq_true rfl) ⟨Nat.zero_le _, Nat.zero_le _⟩ ?_
      refine r_bipush C (pc := 18) dX6_doSetApart_18 rfl ?_
      refine r_icmp_eq C (pc := 20) 42 dX6_doSetApart_20 rfl h (fun c20 h => ?_) (fun c20 h => ?_)
      · exact hk42 h
      · refine r_iload C (pc := 23) dX6_doSetApart_23 3 rfl ?_
        refine r_iconst C (pc := 25) dX6_doSetApart_25 ?_
        refine r_aload_n C (pc := 26) dX6_doSetApart_26 rfl 0 rfl ?_
        refine r_iload C (pc := 27) dX6_doSetApart_27 4 rfl ?_
        obtain ⟨r29, e29, h⟩ := wp_b1 h
        refine b_cVi C (pc := 29) dX6_doSetApart_29 (c_X6_digitAt (xl g) (xG g) a_this a_this_signs a_this_starts c_this_held c_this_clauses c_this_signs v5_6 r29 e29) rfl gX6_doSetApart_X6_digitAt ⟨rfl, rfl⟩ 1 hd_X6_digitAt ⟨Nat.le_of_ble_eq_true rfl, Nat.le_of_ble_eq_true rfl⟩ rfl 0 rfl rfl rfl [0, 1] rfl (srt_nd 0 rfl) (ws' := w_X6_doSetApart (xG g) a_this a_this_signs a_this_starts a_p1 a_p1_table a_p1_numbers a_p1_images a_p1_seen a_p1_events a_p1_book a_p1_table_gaps c_this_held c_this_clauses c_this_signs c_p1_table_size c_p1_table_gaps) (Put.m rfl rfl rfl) rfl (rest := [.int (jz 1), .int (jz v4_6)]) rfl (Nat.le_of_ble_eq_true rfl) ⟨Nat.zero_le _, Nat.zero_le _⟩ ?_
        refine r_ishl C (pc := 32) dX6_doSetApart_32 ?_
        refine r_ior C (pc := 33) dX6_doSetApart_33 ?_
        refine r_let h (fun x34 h => ?_)
        refine r_istore C (pc := 34) dX6_doSetApart_34 (by decide) (L' := [(0, .ref a_this), (1, .ref a_p1), (3, .int (jz p3)), (4, .int (jz x34)), (5, .int (jz v5_6))]) rfl ?_
        refine r_iinc C (pc := 36) dX6_doSetApart_36 4 rfl (by decide) (L' := [(0, .ref a_this), (1, .ref a_p1), (3, .int (jz p3)), (4, .int (jz x34)), (5, .int (jz (v5_6 + 1)))]) rfl ?_
        refine r_goto C (pc := 39) 6 dX6_doSetApart_39 rfl ?_
        exact hn6 x34 (v5_6 + 1) h
theorem c_X6_doSetApart (l : Launch) (G : gG) (a_this : Nat) (a_this_signs : Nat) (a_this_starts : Nat) (a_p1 : Nat) (a_p1_table : Nat) (a_p1_numbers : Nat) (a_p1_images : Nat) (a_p1_seen : Nat) (a_p1_events : Nat) (a_p1_book : Nat) (a_p1_table_gaps : Nat) (c_this_held : Int) (c_this_clauses : Int) (c_this_signs : Nat → Int) (c_p1_table_size : Int) (c_p1_table_gaps : Nat → Int) (p2 : Int) (p3 : Int) (r : Int) (o0 : Nat → Int) (hf : f_X6_doSetApart p2 p3 c_this_held c_this_signs c_p1_table_size c_p1_table_gaps = some (r, o0)) : CTi l yX6_doSetApart wsX6_doSetApart rm_X6_doSetApart G (w_X6_doSetApart G a_this a_this_signs a_this_starts a_p1 a_p1_table a_p1_numbers a_p1_images a_p1_seen a_p1_events a_p1_book a_p1_table_gaps c_this_held c_this_clauses c_this_signs c_p1_table_size c_p1_table_gaps) [.ref a_this, .ref a_p1, .int (jz p2), .int (jz p3)] (jz r) (w_X6_doSetApart G a_this a_this_signs a_this_starts a_p1 a_p1_table a_p1_numbers a_p1_images a_p1_seen a_p1_events a_p1_book a_p1_table_gaps c_this_held c_this_clauses c_this_signs c_p1_table_size o0) := CTi_of (by decide) rfl rfl (Nat.le_of_ble_eq_true rfl) (fun g C hG hl hF => by
    subst hG
    subst hl
    exact k_X6_doSetApart C a_this a_this_signs a_this_starts a_p1 a_p1_table a_p1_numbers a_p1_images a_p1_seen a_p1_events a_p1_book a_p1_table_gaps c_this_held c_this_clauses c_this_signs c_p1_table_size c_p1_table_gaps p2 p3 (fun x => x = (r, o0)) (fun r' o0' e => by cases e; exact hF) ⟨_, hf, rfl⟩)

-- TightHulls$Text.doClause(LTightHulls$Setup;I)Z
def f_X6_doClause (p2 : Int) (c_this_held : Int) (c_this_signs : Nat → Int) (c_p1_table_size : Int) (c_p1_table_gaps : Nat → Int) (c_p1_numbers : Nat → Int) (c_p1_images : Nat → Int) : Option (Int × Int × (Nat → Int) × (Nat → Int) × (Nat → Int)) := bd1 (f_X6_pastClause p2 c_this_held c_this_signs) (fun r2 => bd1 (f_X6_signAt p2 c_this_held c_this_signs) (fun r8 => if eqI r8 100 = true then (bd1 (f_X6_digitAt (p2 + 1) c_this_held c_this_signs) (fun r77 => bd1 (f_X6_digitAt (p2 + 2) c_this_held c_this_signs) (fun r84 => bd1 (f_X6_numberAt (p2 + 3) r2 c_this_held c_this_signs) (fun r92 => bd2 (f_X2_place r77 r84 r92 c_p1_table_size c_p1_table_gaps) (fun r95 p1_table_gaps_95 => grd (isB r95) (some (r95, c_p1_table_size, p1_table_gaps_95, c_p1_numbers, c_p1_images))))))) else (if eqI r8 104 = true then (bd1 (f_X4_takeShortWays c_p1_table_size c_p1_table_gaps) (fun p1_table_gaps_127 => some (1, c_p1_table_size, p1_table_gaps_127, c_p1_numbers, c_p1_images))) else (if eqI r8 109 = true then (bd1 (f_X6_numberAt (p2 + 1) r2 c_this_held c_this_signs) (fun r115 => bd1 (f_X2_multiply r115 c_p1_table_size c_p1_table_gaps) (fun p1_table_gaps_118 => some (1, c_p1_table_size, p1_table_gaps_118, c_p1_numbers, c_p1_images)))) else (if eqI r8 110 = true then (bd1 (f_X6_digitAt (p2 + 1) c_this_held c_this_signs) (fun r65 => bd5 (f_X2_begin r65 c_p1_table_size c_p1_table_gaps c_p1_numbers c_p1_images) (fun r68 p1_table_size_68 p1_table_gaps_68 p1_numbers_68 p1_images_68 => grd (isB r68) (some (r68, p1_table_size_68, p1_table_gaps_68, p1_numbers_68, p1_images_68))))) else (if eqI r8 115 = true then (bd2 (f_X6_doSetApart (p2 + 1) r2 c_this_held c_this_signs c_p1_table_size c_p1_table_gaps) (fun r105 p1_table_gaps_105 => grd (isB r105) (some (r105, c_p1_table_size, p1_table_gaps_105, c_p1_numbers, c_p1_images)))) else (some (0, c_p1_table_size, c_p1_table_gaps, c_p1_numbers, c_p1_images))))))))
abbrev rm_X6_doClause : Room := { frames := 4, cells := 0, slots := 0, locals := 109 }
abbrev w_X6_doClause (G : gG) (a_this : Nat) (a_this_signs : Nat) (a_this_starts : Nat) (a_p1 : Nat) (a_p1_table : Nat) (a_p1_numbers : Nat) (a_p1_images : Nat) (a_p1_seen : Nat) (a_p1_events : Nat) (a_p1_book : Nat) (a_p1_table_gaps : Nat) (c_this_held : Int) (c_this_clauses : Int) (c_this_signs : Nat → Int) (c_p1_table_size : Int) (c_p1_table_gaps : Nat → Int) (c_p1_numbers : Nat → Int) (c_p1_images : Nat → Int) : va_W := [(a_this, .inr (6, [.ref a_this_signs, .int (jz c_this_held), .ref a_this_starts, .int (jz c_this_clauses)])), (a_this_signs, aB G 100 c_this_signs), (a_p1, .inr (2, [.ref a_p1_table, .ref a_p1_numbers, .ref a_p1_images, .ref a_p1_seen, .ref a_p1_events, .ref a_p1_book])), (a_p1_table, .inr (4, [.int (jz c_p1_table_size), .ref a_p1_table_gaps])), (a_p1_table_gaps, aI G 25 c_p1_table_gaps), (a_p1_numbers, aI G 5 c_p1_numbers), (a_p1_images, aI G 5 c_p1_images)]
theorem hd_X6_doClause : yX6_doClause.cls = RX6 ∧ yX6_doClause.cls ≠ "java/lang/invoke/MethodHandle" ∧ yX6_doClause.cls ≠ "java/lang/invoke/VarHandle" ∧ (parseMethodDescriptor yX6_doClause.desc).map (fun d => d.parameters.length) = some 2 := by decide +kernel
theorem in_X6_doClause_X2 : ∀ w ∈ u_ws RX2 TX2 6, w ∈ wsX6_doClause := fun w h => List.mem_cons_of_mem _ (List.mem_append_left _ (List.mem_append_left _ (List.mem_append_right _ (h))))
theorem gf_X6_doClause_63 : GF wsX6_doClause RX6 63 2 0 := ⟨RX2, TX2, 6, rfl, in_X6_doClause_X2, by decide, List.mem_of_getElem? (i := 1) rfl⟩
set_option maxRecDepth 100000 in
set_option maxHeartbeats 4000000 in
theorem k_X6_doClause {g : XC} (C : XOk g cX6_doClause RX6 wsX6_doClause rm_X6_doClause 4) (a_this : Nat) (a_this_signs : Nat) (a_this_starts : Nat) (a_p1 : Nat) (a_p1_table : Nat) (a_p1_numbers : Nat) (a_p1_images : Nat) (a_p1_seen : Nat) (a_p1_events : Nat) (a_p1_book : Nat) (a_p1_table_gaps : Nat) (c_this_held : Int) (c_this_clauses : Int) (c_this_signs : Nat → Int) (c_p1_table_size : Int) (c_p1_table_gaps : Nat → Int) (c_p1_numbers : Nat → Int) (c_p1_images : Nat → Int) (p2 : Int) (K : (Int × Int × (Nat → Int) × (Nat → Int) × (Nat → Int)) → Prop) (hK : ∀ (r : Int) (o0 : Int) (o1 : Nat → Int) (o2 : Nat → Int) (o3 : Nat → Int), K (r, o0, o1, o2, o3) → (narrow .boolean (.int (jz r)) = .int (jz r) → FinI g 0 0 (w_X6_doClause (xG g) a_this a_this_signs a_this_starts a_p1 a_p1_table a_p1_numbers a_p1_images a_p1_seen a_p1_events a_p1_book a_p1_table_gaps c_this_held c_this_clauses c_this_signs o0 o1 o2 o3) (jz r))) (h : wp (f_X6_doClause p2 c_this_held c_this_signs c_p1_table_size c_p1_table_gaps c_p1_numbers c_p1_images) K) : WW g 0 0 (w_X6_doClause (xG g) a_this a_this_signs a_this_starts a_p1 a_p1_table a_p1_numbers a_p1_images a_p1_seen a_p1_events a_p1_book a_p1_table_gaps c_this_held c_this_clauses c_this_signs c_p1_table_size c_p1_table_gaps c_p1_numbers c_p1_images) 0 [(0, .ref a_this), (1, .ref a_p1), (2, .int (jz p2))] [] := by
  unfold f_X6_doClause at h
  refine r_aload_n C (pc := 0) dX6_doClause_0 rfl 0 rfl ?_
  refine r_iload_n C (pc := 1) dX6_doClause_1 rfl 2 rfl ?_
  obtain ⟨r2, e2, h⟩ := wp_b1 h
  refine b_cVi C (pc := 2) dX6_doClause_2 (c_X6_pastClause (xl g) (xG g) a_this a_this_signs a_this_starts c_this_held c_this_clauses c_this_signs p2 r2 e2) rfl gX6_doClause_X6_pastClause ⟨rfl, rfl⟩ 1 hd_X6_pastClause ⟨Nat.le_of_ble_eq_true rfl, Nat.le_of_ble_eq_true rfl⟩ rfl 0 rfl rfl rfl [0, 1] rfl (srt_nd 0 rfl) (ws' := w_X6_doClause (xG g) a_this a_this_signs a_this_starts a_p1 a_p1_table a_p1_numbers a_p1_images a_p1_seen a_p1_events a_p1_book a_p1_table_gaps c_this_held c_this_clauses c_this_signs c_p1_table_size c_p1_table_gaps c_p1_numbers c_p1_images) (Put.m rfl rfl rfl) rfl (rest := []) rfl (Nat.le_of_ble_eq_true rfl) ⟨Nat.zero_le _, Nat.zero_le _⟩ ?_
  refine r_istore_n C (pc := 5) dX6_doClause_5 rfl (by decide) (L' := [(0, .ref a_this), (1, .ref a_p1), (2, .int (jz p2)), (3, .int (jz r2))]) rfl ?_
  refine r_aload_n C (pc := 6) dX6_doClause_6 rfl 0 rfl ?_
  refine r_iload_n C (pc := 7) dX6_doClause_7 rfl 2 rfl ?_
  obtain ⟨r8, e8, h⟩ := wp_b1 h
  refine b_cVi C (pc := 8) dX6_doClause_8 (c_X6_signAt (xl g) (xG g) a_this a_this_signs a_this_starts c_this_held c_this_clauses c_this_signs p2 r8 e8) rfl gX6_doClause_X6_signAt ⟨rfl, rfl⟩ 1 hd_X6_signAt ⟨Nat.le_of_ble_eq_true rfl, Nat.le_of_ble_eq_true rfl⟩ rfl 0 rfl rfl rfl [0, 1] rfl (srt_nd 0 rfl) (ws' := w_X6_doClause (xG g) a_this a_this_signs a_this_starts a_p1 a_p1_table a_p1_numbers a_p1_images a_p1_seen a_p1_events a_p1_book a_p1_table_gaps c_this_held c_this_clauses c_this_signs c_p1_table_size c_p1_table_gaps c_p1_numbers c_p1_images) (Put.m rfl rfl rfl) rfl (rest := []) rfl (Nat.le_of_ble_eq_true rfl) ⟨Nat.zero_le _, Nat.zero_le _⟩ ?_
  refine sw1 h (fun b11_0 h => ?_) (fun b11_0 h => ?_)
  · refine r_lookup C (pc := 11) 72 dX6_doClause_11 (by decide) (lk_eq (z := 100) b11_0 _ _ rfl) rfl ?_
    refine r_aload_n C (pc := 72) dX6_doClause_72 rfl 1 rfl ?_
    refine r_aload_n C (pc := 73) dX6_doClause_73 rfl 0 rfl ?_
    refine r_iload_n C (pc := 74) dX6_doClause_74 rfl 2 rfl ?_
    refine r_iconst C (pc := 75) dX6_doClause_75 ?_
    refine r_iadd C (pc := 76) dX6_doClause_76 ?_
    obtain ⟨r77, e77, h⟩ := wp_b1 h
    refine b_cVi C (pc := 77) dX6_doClause_77 (c_X6_digitAt (xl g) (xG g) a_this a_this_signs a_this_starts c_this_held c_this_clauses c_this_signs (p2 + 1) r77 e77) rfl gX6_doClause_X6_digitAt ⟨rfl, rfl⟩ 1 hd_X6_digitAt ⟨Nat.le_of_ble_eq_true rfl, Nat.le_of_ble_eq_true rfl⟩ rfl 0 rfl rfl rfl [0, 1] rfl (srt_nd 0 rfl) (ws' := w_X6_doClause (xG g) a_this a_this_signs a_this_starts a_p1 a_p1_table a_p1_numbers a_p1_images a_p1_seen a_p1_events a_p1_book a_p1_table_gaps c_this_held c_this_clauses c_this_signs c_p1_table_size c_p1_table_gaps c_p1_numbers c_p1_images) (Put.m rfl rfl rfl) rfl (rest := [.ref a_p1]) rfl (Nat.le_of_ble_eq_true rfl) ⟨Nat.zero_le _, Nat.zero_le _⟩ ?_
    refine r_aload_n C (pc := 80) dX6_doClause_80 rfl 0 rfl ?_
    refine r_iload_n C (pc := 81) dX6_doClause_81 rfl 2 rfl ?_
    refine r_iconst C (pc := 82) dX6_doClause_82 ?_
    refine r_iadd C (pc := 83) dX6_doClause_83 ?_
    obtain ⟨r84, e84, h⟩ := wp_b1 h
    refine b_cVi C (pc := 84) dX6_doClause_84 (c_X6_digitAt (xl g) (xG g) a_this a_this_signs a_this_starts c_this_held c_this_clauses c_this_signs (p2 + 2) r84 e84) rfl gX6_doClause_X6_digitAt ⟨rfl, rfl⟩ 1 hd_X6_digitAt ⟨Nat.le_of_ble_eq_true rfl, Nat.le_of_ble_eq_true rfl⟩ rfl 0 rfl rfl rfl [0, 1] rfl (srt_nd 0 rfl) (ws' := w_X6_doClause (xG g) a_this a_this_signs a_this_starts a_p1 a_p1_table a_p1_numbers a_p1_images a_p1_seen a_p1_events a_p1_book a_p1_table_gaps c_this_held c_this_clauses c_this_signs c_p1_table_size c_p1_table_gaps c_p1_numbers c_p1_images) (Put.m rfl rfl rfl) rfl (rest := [.int (jz r77), .ref a_p1]) rfl (Nat.le_of_ble_eq_true rfl) ⟨Nat.zero_le _, Nat.zero_le _⟩ ?_
    refine r_aload_n C (pc := 87) dX6_doClause_87 rfl 0 rfl ?_
    refine r_iload_n C (pc := 88) dX6_doClause_88 rfl 2 rfl ?_
    refine r_iconst C (pc := 89) dX6_doClause_89 ?_
    refine r_iadd C (pc := 90) dX6_doClause_90 ?_
    refine r_iload_n C (pc := 91) dX6_doClause_91 rfl 3 rfl ?_
    obtain ⟨r92, e92, h⟩ := wp_b1 h
    refine b_cVi C (pc := 92) dX6_doClause_92 (c_X6_numberAt (xl g) (xG g) a_this a_this_signs a_this_starts c_this_held c_this_clauses c_this_signs (p2 + 3) r2 r92 e92) rfl gX6_doClause_X6_numberAt ⟨rfl, rfl⟩ 2 hd_X6_numberAt ⟨Nat.le_of_ble_eq_true rfl, Nat.le_of_ble_eq_true rfl⟩ rfl 0 rfl rfl rfl [0, 1] rfl (srt_nd 0 rfl) (ws' := w_X6_doClause (xG g) a_this a_this_signs a_this_starts a_p1 a_p1_table a_p1_numbers a_p1_images a_p1_seen a_p1_events a_p1_book a_p1_table_gaps c_this_held c_this_clauses c_this_signs c_p1_table_size c_p1_table_gaps c_p1_numbers c_p1_images) (Put.m rfl rfl rfl) rfl (rest := [.int (jz r84), .int (jz r77), .ref a_p1]) rfl (Nat.le_of_ble_eq_true rfl) ⟨Nat.zero_le _, Nat.zero_le _⟩ ?_
    obtain ⟨r95, p1_table_gaps_95, e95, h⟩ := wp_b2 h
    refine b_cVi C (pc := 95) dX6_doClause_95 (c_X2_place (xl g) (xG g) a_p1 a_p1_table a_p1_numbers a_p1_images a_p1_seen a_p1_events a_p1_book a_p1_table_gaps c_p1_table_size c_p1_table_gaps r77 r84 r92 r95 p1_table_gaps_95 e95) rfl gX6_doClause_X2_place ⟨rfl, rfl⟩ 3 hd_X2_place ⟨Nat.le_of_ble_eq_true rfl, Nat.le_of_ble_eq_true rfl⟩ rfl 2 rfl rfl rfl [2, 3, 4] rfl (srt_nd 0 rfl) (ws' := w_X6_doClause (xG g) a_this a_this_signs a_this_starts a_p1 a_p1_table a_p1_numbers a_p1_images a_p1_seen a_p1_events a_p1_book a_p1_table_gaps c_this_held c_this_clauses c_this_signs c_p1_table_size p1_table_gaps_95 c_p1_numbers c_p1_images) (Put.m rfl rfl rfl) rfl (rest := []) rfl (Nat.le_of_ble_eq_true rfl) ⟨Nat.zero_le _, Nat.zero_le _⟩ ?_
    exact r_iret C (pc := 98) dX6_doClause_98 (hK r95 c_p1_table_size p1_table_gaps_95 c_p1_numbers c_p1_images (wp_s (wp_g h).2) (nB (wp_g h).1).1)
  · refine sw1 h (fun b11_1 h => ?_) (fun b11_1 h => ?_)
    · refine r_lookup C (pc := 11) 123 dX6_doClause_11 (by decide) ((lk_ne (z := 100) b11_0 rfl).trans (lk_eq (z := 104) b11_1 _ _ rfl)) rfl ?_
      refine r_aload_n C (pc := 123) dX6_doClause_123 rfl 1 rfl ?_
      refine r_get C (pc := 124) dX6_doClause_124 gf_X6_doClause_63 2 rfl rfl ?_
      obtain ⟨p1_table_gaps_127, e127, h⟩ := wp_b1 h
      refine b_cVv C (pc := 127) dX6_doClause_127 (c_X4_takeShortWays (xl g) (xG g) a_p1_table a_p1_table_gaps c_p1_table_size c_p1_table_gaps p1_table_gaps_127 e127) rfl gX6_doClause_X4_takeShortWays ⟨rfl, rfl⟩ 0 hd_X4_takeShortWays ⟨Nat.le_of_ble_eq_true rfl, Nat.le_of_ble_eq_true rfl⟩ rfl 3 rfl rfl rfl [3, 4] rfl (srt_nd 0 rfl) (ws' := w_X6_doClause (xG g) a_this a_this_signs a_this_starts a_p1 a_p1_table a_p1_numbers a_p1_images a_p1_seen a_p1_events a_p1_book a_p1_table_gaps c_this_held c_this_clauses c_this_signs c_p1_table_size p1_table_gaps_127 c_p1_numbers c_p1_images) (Put.m rfl rfl rfl) rfl (rest := []) rfl (Nat.le_of_ble_eq_true rfl) ⟨Nat.zero_le _, Nat.zero_le _⟩ ?_
      refine r_iconst C (pc := 130) dX6_doClause_130 ?_
      exact r_iret C (pc := 131) dX6_doClause_131 (hK 1 c_p1_table_size p1_table_gaps_127 c_p1_numbers c_p1_images (wp_s h) (nB rfl).1)
    · refine sw1 h (fun b11_2 h => ?_) (fun b11_2 h => ?_)
      · refine r_lookup C (pc := 11) 109 dX6_doClause_11 (by decide) ((lk_ne (z := 100) b11_0 rfl).trans ((lk_ne (z := 104) b11_1 rfl).trans (lk_eq (z := 109) b11_2 _ _ rfl))) rfl ?_
        refine r_aload_n C (pc := 109) dX6_doClause_109 rfl 1 rfl ?_
        refine r_aload_n C (pc := 110) dX6_doClause_110 rfl 0 rfl ?_
        refine r_iload_n C (pc := 111) dX6_doClause_111 rfl 2 rfl ?_
        refine r_iconst C (pc := 112) dX6_doClause_112 ?_
        refine r_iadd C (pc := 113) dX6_doClause_113 ?_
        refine r_iload_n C (pc := 114) dX6_doClause_114 rfl 3 rfl ?_
        obtain ⟨r115, e115, h⟩ := wp_b1 h
        refine b_cVi C (pc := 115) dX6_doClause_115 (c_X6_numberAt (xl g) (xG g) a_this a_this_signs a_this_starts c_this_held c_this_clauses c_this_signs (p2 + 1) r2 r115 e115) rfl gX6_doClause_X6_numberAt ⟨rfl, rfl⟩ 2 hd_X6_numberAt ⟨Nat.le_of_ble_eq_true rfl, Nat.le_of_ble_eq_true rfl⟩ rfl 0 rfl rfl rfl [0, 1] rfl (srt_nd 0 rfl) (ws' := w_X6_doClause (xG g) a_this a_this_signs a_this_starts a_p1 a_p1_table a_p1_numbers a_p1_images a_p1_seen a_p1_events a_p1_book a_p1_table_gaps c_this_held c_this_clauses c_this_signs c_p1_table_size c_p1_table_gaps c_p1_numbers c_p1_images) (Put.m rfl rfl rfl) rfl (rest := [.ref a_p1]) rfl (Nat.le_of_ble_eq_true rfl) ⟨Nat.zero_le _, Nat.zero_le _⟩ ?_
        obtain ⟨p1_table_gaps_118, e118, h⟩ := wp_b1 h
        refine b_cVv C (pc := 118) dX6_doClause_118 (c_X2_multiply (xl g) (xG g) a_p1 a_p1_table a_p1_numbers a_p1_images a_p1_seen a_p1_events a_p1_book a_p1_table_gaps c_p1_table_size c_p1_table_gaps r115 p1_table_gaps_118 e118) rfl gX6_doClause_X2_multiply ⟨rfl, rfl⟩ 1 hd_X2_multiply ⟨Nat.le_of_ble_eq_true rfl, Nat.le_of_ble_eq_true rfl⟩ rfl 2 rfl rfl rfl [2, 3, 4] rfl (srt_nd 0 rfl) (ws' := w_X6_doClause (xG g) a_this a_this_signs a_this_starts a_p1 a_p1_table a_p1_numbers a_p1_images a_p1_seen a_p1_events a_p1_book a_p1_table_gaps c_this_held c_this_clauses c_this_signs c_p1_table_size p1_table_gaps_118 c_p1_numbers c_p1_images) (Put.m rfl rfl rfl) rfl (rest := []) rfl (Nat.le_of_ble_eq_true rfl) ⟨Nat.zero_le _, Nat.zero_le _⟩ ?_
        refine r_iconst C (pc := 121) dX6_doClause_121 ?_
        exact r_iret C (pc := 122) dX6_doClause_122 (hK 1 c_p1_table_size p1_table_gaps_118 c_p1_numbers c_p1_images (wp_s h) (nB rfl).1)
      · refine sw1 h (fun b11_3 h => ?_) (fun b11_3 h => ?_)
        · refine r_lookup C (pc := 11) 60 dX6_doClause_11 (by decide) ((lk_ne (z := 100) b11_0 rfl).trans ((lk_ne (z := 104) b11_1 rfl).trans ((lk_ne (z := 109) b11_2 rfl).trans (lk_eq (z := 110) b11_3 _ _ rfl)))) rfl ?_
          refine r_aload_n C (pc := 60) dX6_doClause_60 rfl 1 rfl ?_
          refine r_aload_n C (pc := 61) dX6_doClause_61 rfl 0 rfl ?_
          refine r_iload_n C (pc := 62) dX6_doClause_62 rfl 2 rfl ?_
          refine r_iconst C (pc := 63) dX6_doClause_63 ?_
          refine r_iadd C (pc := 64) dX6_doClause_64 ?_
          obtain ⟨r65, e65, h⟩ := wp_b1 h
          refine b_cVi C (pc := 65) dX6_doClause_65 (c_X6_digitAt (xl g) (xG g) a_this a_this_signs a_this_starts c_this_held c_this_clauses c_this_signs (p2 + 1) r65 e65) rfl gX6_doClause_X6_digitAt ⟨rfl, rfl⟩ 1 hd_X6_digitAt ⟨Nat.le_of_ble_eq_true rfl, Nat.le_of_ble_eq_true rfl⟩ rfl 0 rfl rfl rfl [0, 1] rfl (srt_nd 0 rfl) (ws' := w_X6_doClause (xG g) a_this a_this_signs a_this_starts a_p1 a_p1_table a_p1_numbers a_p1_images a_p1_seen a_p1_events a_p1_book a_p1_table_gaps c_this_held c_this_clauses c_this_signs c_p1_table_size c_p1_table_gaps c_p1_numbers c_p1_images) (Put.m rfl rfl rfl) rfl (rest := [.ref a_p1]) rfl (Nat.le_of_ble_eq_true rfl) ⟨Nat.zero_le _, Nat.zero_le _⟩ ?_
          obtain ⟨r68, p1_table_size_68, p1_table_gaps_68, p1_numbers_68, p1_images_68, e68, h⟩ := wp_b5 h
          refine b_cVi C (pc := 68) dX6_doClause_68 (c_X2_begin (xl g) (xG g) a_p1 a_p1_table a_p1_numbers a_p1_images a_p1_seen a_p1_events a_p1_book a_p1_table_gaps c_p1_table_size c_p1_table_gaps c_p1_numbers c_p1_images r65 r68 p1_table_size_68 p1_table_gaps_68 p1_numbers_68 p1_images_68 e68) rfl gX6_doClause_X2_begin ⟨rfl, rfl⟩ 1 hd_X2_begin ⟨Nat.le_of_ble_eq_true rfl, Nat.le_of_ble_eq_true rfl⟩ rfl 2 rfl rfl rfl [2, 3, 4, 5, 6] rfl (srt_nd 0 rfl) (ws' := w_X6_doClause (xG g) a_this a_this_signs a_this_starts a_p1 a_p1_table a_p1_numbers a_p1_images a_p1_seen a_p1_events a_p1_book a_p1_table_gaps c_this_held c_this_clauses c_this_signs p1_table_size_68 p1_table_gaps_68 p1_numbers_68 p1_images_68) (Put.m rfl rfl rfl) rfl (rest := []) rfl (Nat.le_of_ble_eq_true rfl) ⟨Nat.zero_le _, Nat.zero_le _⟩ ?_
          exact r_iret C (pc := 71) dX6_doClause_71 (hK r68 p1_table_size_68 p1_table_gaps_68 p1_numbers_68 p1_images_68 (wp_s (wp_g h).2) (nB (wp_g h).1).1)
        · refine sw1 h (fun b11_4 h => ?_) (fun b11_4 h => ?_)
          · refine r_lookup C (pc := 11) 99 dX6_doClause_11 (by decide) ((lk_ne (z := 100) b11_0 rfl).trans ((lk_ne (z := 104) b11_1 rfl).trans ((lk_ne (z := 109) b11_2 rfl).trans ((lk_ne (z := 110) b11_3 rfl).trans (lk_eq (z := 115) b11_4 _ _ rfl))))) rfl ?_
            refine r_aload_n C (pc := 99) dX6_doClause_99 rfl 0 rfl ?_
            refine r_aload_n C (pc := 100) dX6_doClause_100 rfl 1 rfl ?_
            refine r_iload_n C (pc := 101) dX6_doClause_101 rfl 2 rfl ?_
            refine r_iconst C (pc := 102) dX6_doClause_102 ?_
            refine r_iadd C (pc := 103) dX6_doClause_103 ?_
            refine r_iload_n C (pc := 104) dX6_doClause_104 rfl 3 rfl ?_
            obtain ⟨r105, p1_table_gaps_105, e105, h⟩ := wp_b2 h
            refine b_cVi C (pc := 105) dX6_doClause_105 (c_X6_doSetApart (xl g) (xG g) a_this a_this_signs a_this_starts a_p1 a_p1_table a_p1_numbers a_p1_images a_p1_seen a_p1_events a_p1_book a_p1_table_gaps c_this_held c_this_clauses c_this_signs c_p1_table_size c_p1_table_gaps (p2 + 1) r2 r105 p1_table_gaps_105 e105) rfl gX6_doClause_X6_doSetApart ⟨rfl, rfl⟩ 3 hd_X6_doSetApart ⟨Nat.le_of_ble_eq_true rfl, Nat.le_of_ble_eq_true rfl⟩ rfl 0 rfl rfl rfl [0, 1, 2, 3, 4] rfl (srt_nd 0 rfl) (ws' := w_X6_doClause (xG g) a_this a_this_signs a_this_starts a_p1 a_p1_table a_p1_numbers a_p1_images a_p1_seen a_p1_events a_p1_book a_p1_table_gaps c_this_held c_this_clauses c_this_signs c_p1_table_size p1_table_gaps_105 c_p1_numbers c_p1_images) (Put.m rfl rfl rfl) rfl (rest := []) rfl (Nat.le_of_ble_eq_true rfl) ⟨Nat.zero_le _, Nat.zero_le _⟩ ?_
            exact r_iret C (pc := 108) dX6_doClause_108 (hK r105 c_p1_table_size p1_table_gaps_105 c_p1_numbers c_p1_images (wp_s (wp_g h).2) (nB (wp_g h).1).1)
          · refine r_lookup C (pc := 11) 132 dX6_doClause_11 (by decide) ((lk_ne (z := 100) b11_0 rfl).trans ((lk_ne (z := 104) b11_1 rfl).trans ((lk_ne (z := 109) b11_2 rfl).trans ((lk_ne (z := 110) b11_3 rfl).trans ((lk_ne (z := 115) b11_4 rfl).trans (rfl)))))) rfl ?_
            refine r_iconst C (pc := 132) dX6_doClause_132 ?_
            exact r_iret C (pc := 133) dX6_doClause_133 (hK 0 c_p1_table_size c_p1_table_gaps c_p1_numbers c_p1_images (wp_s h) (nB rfl).1)
theorem c_X6_doClause (l : Launch) (G : gG) (a_this : Nat) (a_this_signs : Nat) (a_this_starts : Nat) (a_p1 : Nat) (a_p1_table : Nat) (a_p1_numbers : Nat) (a_p1_images : Nat) (a_p1_seen : Nat) (a_p1_events : Nat) (a_p1_book : Nat) (a_p1_table_gaps : Nat) (c_this_held : Int) (c_this_clauses : Int) (c_this_signs : Nat → Int) (c_p1_table_size : Int) (c_p1_table_gaps : Nat → Int) (c_p1_numbers : Nat → Int) (c_p1_images : Nat → Int) (p2 : Int) (r : Int) (o0 : Int) (o1 : Nat → Int) (o2 : Nat → Int) (o3 : Nat → Int) (hf : f_X6_doClause p2 c_this_held c_this_signs c_p1_table_size c_p1_table_gaps c_p1_numbers c_p1_images = some (r, o0, o1, o2, o3)) : CTi l yX6_doClause wsX6_doClause rm_X6_doClause G (w_X6_doClause G a_this a_this_signs a_this_starts a_p1 a_p1_table a_p1_numbers a_p1_images a_p1_seen a_p1_events a_p1_book a_p1_table_gaps c_this_held c_this_clauses c_this_signs c_p1_table_size c_p1_table_gaps c_p1_numbers c_p1_images) [.ref a_this, .ref a_p1, .int (jz p2)] (jz r) (w_X6_doClause G a_this a_this_signs a_this_starts a_p1 a_p1_table a_p1_numbers a_p1_images a_p1_seen a_p1_events a_p1_book a_p1_table_gaps c_this_held c_this_clauses c_this_signs o0 o1 o2 o3) := CTi_of (by decide) rfl rfl (Nat.le_of_ble_eq_true rfl) (fun g C hG hl hF => by
    subst hG
    subst hl
    exact k_X6_doClause C a_this a_this_signs a_this_starts a_p1 a_p1_table a_p1_numbers a_p1_images a_p1_seen a_p1_events a_p1_book a_p1_table_gaps c_this_held c_this_clauses c_this_signs c_p1_table_size c_p1_table_gaps c_p1_numbers c_p1_images p2 (fun x => x = (r, o0, o1, o2, o3)) (fun r' o0' o1' o2' o3' e => by cases e; exact hF) ⟨_, hf, rfl⟩)

-- TightHulls$Text.carryOut(LTightHulls$Setup;)I
def f_X6_carryOut (c_this_held : Int) (c_this_clauses : Int) (c_this_signs : Nat → Int) (c_this_starts : Nat → Int) (c_p1_table_size : Int) (c_p1_table_gaps : Nat → Int) (c_p1_numbers : Nat → Int) (c_p1_images : Nat → Int) : Option (Int × Int × (Nat → Int) × (Nat → Int) × (Nat → Int)) := lq6 (fun (n4 : Int → Int → Int → (Nat → Int) → (Nat → Int) → (Nat → Int) → Option (Int × Int × (Nat → Int) × (Nat → Int) × (Nat → Int))) (v2_4 : Int) (v3_4 : Int) (p1_table_size_4 : Int) (p1_table_gaps_4 : Nat → Int) (p1_numbers_4 : Nat → Int) (p1_images_4 : Nat → Int) => if ltI v3_4 c_this_clauses = true then (grd (iin v3_4 12) (bd5 (f_X6_doClause (c_this_starts (ix v3_4)) c_this_held c_this_signs p1_table_size_4 p1_table_gaps_4 p1_numbers_4 p1_images_4) (fun r21 p1_table_size_21 p1_table_gaps_21 p1_numbers_21 p1_images_21 => jn (fun (s1_32 : Int) => lv ((v2_4 + s1_32)) (fun x33 => n4 x33 (v3_4 + 1) p1_table_size_21 p1_table_gaps_21 p1_numbers_21 p1_images_21)) (fun (k32 : Int → Option (Int × Int × (Nat → Int) × (Nat → Int) × (Nat → Int))) => if eqI r21 0 = true then (k32 0) else (k32 1))))) else (some (v2_4, p1_table_size_4, p1_table_gaps_4, p1_numbers_4, p1_images_4))) 300 0 0 c_p1_table_size c_p1_table_gaps c_p1_numbers c_p1_images
abbrev rm_X6_carryOut : Room := { frames := 5, cells := 0, slots := 0, locals := 132 }
abbrev w_X6_carryOut (G : gG) (a_this : Nat) (a_this_signs : Nat) (a_this_starts : Nat) (a_p1 : Nat) (a_p1_table : Nat) (a_p1_numbers : Nat) (a_p1_images : Nat) (a_p1_seen : Nat) (a_p1_events : Nat) (a_p1_book : Nat) (a_p1_table_gaps : Nat) (c_this_held : Int) (c_this_clauses : Int) (c_this_signs : Nat → Int) (c_this_starts : Nat → Int) (c_p1_table_size : Int) (c_p1_table_gaps : Nat → Int) (c_p1_numbers : Nat → Int) (c_p1_images : Nat → Int) : va_W := [(a_this, .inr (6, [.ref a_this_signs, .int (jz c_this_held), .ref a_this_starts, .int (jz c_this_clauses)])), (a_this_signs, aB G 100 c_this_signs), (a_this_starts, aI G 12 c_this_starts), (a_p1, .inr (2, [.ref a_p1_table, .ref a_p1_numbers, .ref a_p1_images, .ref a_p1_seen, .ref a_p1_events, .ref a_p1_book])), (a_p1_table, .inr (4, [.int (jz c_p1_table_size), .ref a_p1_table_gaps])), (a_p1_table_gaps, aI G 25 c_p1_table_gaps), (a_p1_numbers, aI G 5 c_p1_numbers), (a_p1_images, aI G 5 c_p1_images)]
theorem hd_X6_carryOut : yX6_carryOut.cls = RX6 ∧ yX6_carryOut.cls ≠ "java/lang/invoke/MethodHandle" ∧ yX6_carryOut.cls ≠ "java/lang/invoke/VarHandle" ∧ (parseMethodDescriptor yX6_carryOut.desc).map (fun d => d.parameters.length) = some 1 := by decide +kernel
theorem in_X6_carryOut_X6 : ∀ w ∈ u_ws RX6 TX6 4, w ∈ wsX6_carryOut := fun w h => List.mem_cons_of_mem _ (List.mem_append_left _ (List.mem_append_left _ (List.mem_append_right _ (h))))
theorem gf_X6_carryOut_21 : GF wsX6_carryOut RX6 21 6 3 := ⟨RX6, TX6, 4, rfl, in_X6_carryOut_X6, by decide, List.mem_of_getElem? (i := 1) rfl⟩
theorem gf_X6_carryOut_17 : GF wsX6_carryOut RX6 17 6 2 := ⟨RX6, TX6, 4, rfl, in_X6_carryOut_X6, by decide, List.mem_of_getElem? (i := 2) rfl⟩
set_option maxRecDepth 100000 in
set_option maxHeartbeats 4000000 in
theorem k_X6_carryOut {g : XC} (C : XOk g cX6_carryOut RX6 wsX6_carryOut rm_X6_carryOut 4) (a_this : Nat) (a_this_signs : Nat) (a_this_starts : Nat) (a_p1 : Nat) (a_p1_table : Nat) (a_p1_numbers : Nat) (a_p1_images : Nat) (a_p1_seen : Nat) (a_p1_events : Nat) (a_p1_book : Nat) (a_p1_table_gaps : Nat) (c_this_held : Int) (c_this_clauses : Int) (c_this_signs : Nat → Int) (c_this_starts : Nat → Int) (c_p1_table_size : Int) (c_p1_table_gaps : Nat → Int) (c_p1_numbers : Nat → Int) (c_p1_images : Nat → Int)  (K : (Int × Int × (Nat → Int) × (Nat → Int) × (Nat → Int)) → Prop) (hK : ∀ (r : Int) (o0 : Int) (o1 : Nat → Int) (o2 : Nat → Int) (o3 : Nat → Int), K (r, o0, o1, o2, o3) → (narrow .int (.int (jz r)) = .int (jz r) → FinI g 0 0 (w_X6_carryOut (xG g) a_this a_this_signs a_this_starts a_p1 a_p1_table a_p1_numbers a_p1_images a_p1_seen a_p1_events a_p1_book a_p1_table_gaps c_this_held c_this_clauses c_this_signs c_this_starts o0 o1 o2 o3) (jz r))) (h : wp (f_X6_carryOut c_this_held c_this_clauses c_this_signs c_this_starts c_p1_table_size c_p1_table_gaps c_p1_numbers c_p1_images) K) : WW g 0 0 (w_X6_carryOut (xG g) a_this a_this_signs a_this_starts a_p1 a_p1_table a_p1_numbers a_p1_images a_p1_seen a_p1_events a_p1_book a_p1_table_gaps c_this_held c_this_clauses c_this_signs c_this_starts c_p1_table_size c_p1_table_gaps c_p1_numbers c_p1_images) 0 [(0, .ref a_this), (1, .ref a_p1)] [] := by
  unfold f_X6_carryOut at h
  refine r_iconst C (pc := 0) dX6_carryOut_0 ?_
  refine r_istore_n C (pc := 1) dX6_carryOut_1 rfl (by decide) (L' := [(0, .ref a_this), (1, .ref a_p1), (2, .int (jz 0))]) rfl ?_
  refine r_iconst C (pc := 2) dX6_carryOut_2 ?_
  refine r_istore_n C (pc := 3) dX6_carryOut_3 rfl (by decide) (L' := [(0, .ref a_this), (1, .ref a_p1), (2, .int (jz 0)), (3, .int (jz 0))]) rfl ?_
  refine lq6_e (fun (v2_4 : Int) (v3_4 : Int) (p1_table_size_4 : Int) (p1_table_gaps_4 : Nat → Int) (p1_numbers_4 : Nat → Int) (p1_images_4 : Nat → Int) => WW g 0 0 (w_X6_carryOut (xG g) a_this a_this_signs a_this_starts a_p1 a_p1_table a_p1_numbers a_p1_images a_p1_seen a_p1_events a_p1_book a_p1_table_gaps c_this_held c_this_clauses c_this_signs c_this_starts p1_table_size_4 p1_table_gaps_4 p1_numbers_4 p1_images_4) 4 [(0, .ref a_this), (1, .ref a_p1), (2, .int (jz v2_4)), (3, .int (jz v3_4))] []) h (fun n4 hn4 v2_4 v3_4 p1_table_size_4 p1_table_gaps_4 p1_numbers_4 p1_images_4 h => ?_)
  refine r_iload_n C (pc := 4) dX6_carryOut_4 rfl 3 rfl ?_
  refine r_aload_n C (pc := 5) dX6_carryOut_5 rfl 0 rfl ?_
  refine r_get C (pc := 6) dX6_carryOut_6 gf_X6_carryOut_21 0 rfl rfl ?_
  refine r_icmp_ge C (pc := 9) 40 dX6_carryOut_9 rfl h (fun c9 h => ?_) (fun c9 h => ?_)
  · refine r_iload_n C (pc := 40) dX6_carryOut_40 rfl 2 rfl ?_
    exact r_iret C (pc := 41) dX6_carryOut_41 (hK v2_4 p1_table_size_4 p1_table_gaps_4 p1_numbers_4 p1_images_4 (wp_s h) rfl)
  · refine r_iload_n C (pc := 12) dX6_carryOut_12 rfl 2 rfl ?_
    refine r_aload_n C (pc := 13) dX6_carryOut_13 rfl 0 rfl ?_
    refine r_aload_n C (pc := 14) dX6_carryOut_14 rfl 1 rfl ?_
    refine r_aload_n C (pc := 15) dX6_carryOut_15 rfl 0 rfl ?_
    refine r_get C (pc := 16) dX6_carryOut_16 gf_X6_carryOut_17 0 rfl rfl ?_
    refine r_iload_n C (pc := 19) dX6_carryOut_19 rfl 3 rfl ?_
    refine r_iald C (pc := 20) dX6_carryOut_20 h 2 rfl (fun h => ?_)
    obtain ⟨r21, p1_table_size_21, p1_table_gaps_21, p1_numbers_21, p1_images_21, e21, h⟩ := wp_b5 h
    refine b_cVi C (pc := 21) dX6_carryOut_21 (c_X6_doClause (xl g) (xG g) a_this a_this_signs a_this_starts a_p1 a_p1_table a_p1_numbers a_p1_images a_p1_seen a_p1_events a_p1_book a_p1_table_gaps c_this_held c_this_clauses c_this_signs p1_table_size_4 p1_table_gaps_4 p1_numbers_4 p1_images_4 (c_this_starts (ix v3_4)) r21 p1_table_size_21 p1_table_gaps_21 p1_numbers_21 p1_images_21 e21) rfl gX6_carryOut_X6_doClause ⟨rfl, rfl⟩ 2 hd_X6_doClause ⟨Nat.le_of_ble_eq_true rfl, Nat.le_of_ble_eq_true rfl⟩ rfl 0 rfl rfl rfl [0, 1, 3, 4, 5, 6, 7] rfl (srt_nd 0 rfl) (ws' := w_X6_carryOut (xG g) a_this a_this_signs a_this_starts a_p1 a_p1_table a_p1_numbers a_p1_images a_p1_seen a_p1_events a_p1_book a_p1_table_gaps c_this_held c_this_clauses c_this_signs c_this_starts p1_table_size_21 p1_table_gaps_21 p1_numbers_21 p1_images_21) (Put.m rfl rfl rfl) rfl (rest := [.int (jz v2_4)]) rfl (Nat.le_of_ble_eq_true rfl) ⟨Nat.zero_le _, Nat.zero_le _⟩ ?_
    refine jn_e (fun (k32 : Int → Option (Int × Int × (Nat → Int) × (Nat → Int) × (Nat → Int))) => ∀ (s1_32 : Int), wp (k32 s1_32) K → WW g 0 0 (w_X6_carryOut (xG g) a_this a_this_signs a_this_starts a_p1 a_p1_table a_p1_numbers a_p1_images a_p1_seen a_p1_events a_p1_book a_p1_table_gaps c_this_held c_this_clauses c_this_signs c_this_starts p1_table_size_21 p1_table_gaps_21 p1_numbers_21 p1_images_21) 32 [(0, .ref a_this), (1, .ref a_p1), (3, .int (jz v3_4))] [.int (jz s1_32), .int (jz v2_4)]) h (fun s1_32 h => ?_) (fun k32 hk32 h => ?_)
    · refine r_iadd C (pc := 32) dX6_carryOut_32 ?_
      refine r_let h (fun x33 h => ?_)
      refine r_istore_n C (pc := 33) dX6_carryOut_33 rfl (by decide) (L' := [(0, .ref a_this), (1, .ref a_p1), (2, .int (jz x33)), (3, .int (jz v3_4))]) rfl ?_
      refine r_iinc C (pc := 34) dX6_carryOut_34 3 rfl (by decide) (L' := [(0, .ref a_this), (1, .ref a_p1), (2, .int (jz x33)), (3, .int (jz (v3_4 + 1)))]) rfl ?_
      refine r_goto C (pc := 37) 4 dX6_carryOut_37 rfl ?_
      exact hn4 x33 (v3_4 + 1) p1_table_size_21 p1_table_gaps_21 p1_numbers_21 p1_images_21 h
    · refine r_if_eq C (pc := 24) 31 dX6_carryOut_24 rfl h (fun c24 h => ?_) (fun c24 h => ?_)
      · refine r_iconst C (pc := 31) dX6_carryOut_31 ?_
        refine r_sub [0, 1, 3] rfl ?_
        exact hk32 0 h
      · refine r_iconst C (pc := 27) dX6_carryOut_27 ?_
        refine r_goto C (pc := 28) 32 dX6_carryOut_28 rfl ?_
        refine r_sub [0, 1, 3] rfl ?_
        exact hk32 1 h
theorem c_X6_carryOut (l : Launch) (G : gG) (a_this : Nat) (a_this_signs : Nat) (a_this_starts : Nat) (a_p1 : Nat) (a_p1_table : Nat) (a_p1_numbers : Nat) (a_p1_images : Nat) (a_p1_seen : Nat) (a_p1_events : Nat) (a_p1_book : Nat) (a_p1_table_gaps : Nat) (c_this_held : Int) (c_this_clauses : Int) (c_this_signs : Nat → Int) (c_this_starts : Nat → Int) (c_p1_table_size : Int) (c_p1_table_gaps : Nat → Int) (c_p1_numbers : Nat → Int) (c_p1_images : Nat → Int) (r : Int) (o0 : Int) (o1 : Nat → Int) (o2 : Nat → Int) (o3 : Nat → Int) (hf : f_X6_carryOut c_this_held c_this_clauses c_this_signs c_this_starts c_p1_table_size c_p1_table_gaps c_p1_numbers c_p1_images = some (r, o0, o1, o2, o3)) : CTi l yX6_carryOut wsX6_carryOut rm_X6_carryOut G (w_X6_carryOut G a_this a_this_signs a_this_starts a_p1 a_p1_table a_p1_numbers a_p1_images a_p1_seen a_p1_events a_p1_book a_p1_table_gaps c_this_held c_this_clauses c_this_signs c_this_starts c_p1_table_size c_p1_table_gaps c_p1_numbers c_p1_images) [.ref a_this, .ref a_p1] (jz r) (w_X6_carryOut G a_this a_this_signs a_this_starts a_p1 a_p1_table a_p1_numbers a_p1_images a_p1_seen a_p1_events a_p1_book a_p1_table_gaps c_this_held c_this_clauses c_this_signs c_this_starts o0 o1 o2 o3) := CTi_of (by decide) rfl rfl (Nat.le_of_ble_eq_true rfl) (fun g C hG hl hF => by
    subst hG
    subst hl
    exact k_X6_carryOut C a_this a_this_signs a_this_starts a_p1 a_p1_table a_p1_numbers a_p1_images a_p1_seen a_p1_events a_p1_book a_p1_table_gaps c_this_held c_this_clauses c_this_signs c_this_starts c_p1_table_size c_p1_table_gaps c_p1_numbers c_p1_images (fun x => x = (r, o0, o1, o2, o3)) (fun r' o0' o1' o2' o3' e => by cases e; exact hF) ⟨_, hf, rfl⟩)
