-- TightHullsModel.in(III)Z
def f_X9_in (p1 : Int) (p2 : Int) (p3 : Int) : Option Int := jn (fun (s0_15 : Int) => grd (isB s0_15) (some s0_15)) (fun (k15 : Int → Option Int) => jn (k15 0) (fun (k14 : Option Int) => if ltI p1 p2 = true then k14 else (if ltI p3 p1 = true then k14 else (k15 1))))
abbrev rm_X9_in : Room := { frames := 0, cells := 0, slots := 0, locals := 0 }
abbrev w_X9_in (G : gG)  : va_W := []
theorem hd_X9_in : yX9_in.cls ≠ "java/lang/invoke/MethodHandle" ∧ yX9_in.cls ≠ "java/lang/invoke/VarHandle" ∧ (parseMethodDescriptor yX9_in.desc).map (fun d => d.parameters.length) = some 3 := by decide +kernel
set_option maxRecDepth 100000 in
set_option maxHeartbeats 4000000 in
theorem k_X9_in {g : XC} (C : XOk g cX9_in RX9 wsX9_in rm_X9_in 3)  (p1 : Int) (p2 : Int) (p3 : Int) (K : Int → Prop) (hK : ∀ (r : Int), K r → (narrow .boolean (.int (jz r)) = .int (jz r) → FinI g 0 0 (w_X9_in (xG g)) (jz r))) (h : wp (f_X9_in p1 p2 p3) K) : WW g 0 0 (w_X9_in (xG g)) 0 [(0, .int (jz p1)), (1, .int (jz p2)), (2, .int (jz p3))] [] := by
  unfold f_X9_in at h
  refine r_iload_n C (pc := 0) dX9_in_0 rfl 0 rfl ?_
  refine r_iload_n C (pc := 1) dX9_in_1 rfl 1 rfl ?_
  refine jn_e (fun (k15 : Int → Option Int) => ∀ (s0_15 : Int), wp (k15 s0_15) K → WW g 0 0 (w_X9_in (xG g)) 15 [] [.int (jz s0_15)]) h (fun s0_15 h => ?_) (fun k15 hk15 h => ?_)
  · exact r_iret C (pc := 15) dX9_in_15 (hK s0_15 (wp_s (wp_g h).2) (nB (wp_g h).1).1)
  · refine jn_e (fun (k14 : Option Int) => wp (k14) K → WW g 0 0 (w_X9_in (xG g)) 14 [] []) h (fun h => ?_) (fun k14 hk14 h => ?_)
    · refine r_iconst C (pc := 14) dX9_in_14 ?_
      exact hk15 0 h
    · refine r_icmp_lt C (pc := 2) 14 dX9_in_2 rfl h (fun c2 h => ?_) (fun c2 h => ?_)
      · refine r_sub [] rfl ?_
        exact hk14 h
      · refine r_iload_n C (pc := 5) dX9_in_5 rfl 0 rfl ?_
        refine r_iload_n C (pc := 6) dX9_in_6 rfl 2 rfl ?_
        refine r_icmp_gt C (pc := 7) 14 dX9_in_7 rfl h (fun c7 h => ?_) (fun c7 h => ?_)
        · refine r_sub [] rfl ?_
          exact hk14 h
        · refine r_iconst C (pc := 10) dX9_in_10 ?_
          refine r_goto C (pc := 11) 15 dX9_in_11 rfl ?_
          refine r_sub [] rfl ?_
          exact hk15 1 h
theorem c_X9_in (l : Launch) (G : gG) (p1 : Int) (p2 : Int) (p3 : Int) (r : Int) (hf : f_X9_in p1 p2 p3 = some r) : CTi l yX9_in wsX9_in rm_X9_in G (w_X9_in G) [.int (jz p1), .int (jz p2), .int (jz p3)] (jz r) (w_X9_in G) := CTi_of (by decide) rfl rfl (Nat.le_of_ble_eq_true rfl) (fun g C hG hl hF => by
    subst hG
    subst hl
    exact k_X9_in C p1 p2 p3 (fun x => x = r) (fun r' e => by cases e; exact hF) ⟨_, hf, rfl⟩)

-- TightHullsModel.isPoint(I)Z
def f_X9_isPoint (p1 : Int) (m_points : Int) : Option Int := bd1 (f_X9_in p1 0 (m_points - 1)) (fun r8 => grd (isB r8) (some r8))
abbrev rm_X9_isPoint : Room := { frames := 1, cells := 0, slots := 0, locals := 22 }
abbrev w_X9_isPoint (G : gG) (q : Nat → Nat) (F : Nat → Int) : va_W := [((q 35), oX9 F q)]
theorem hd_X9_isPoint : yX9_isPoint.cls = RX9 ∧ yX9_isPoint.cls ≠ "java/lang/invoke/MethodHandle" ∧ yX9_isPoint.cls ≠ "java/lang/invoke/VarHandle" ∧ (parseMethodDescriptor yX9_isPoint.desc).map (fun d => d.parameters.length) = some 1 := by decide +kernel
theorem in_X9_isPoint_X9 : ∀ w ∈ u_ws RX9 TX9 35, w ∈ wsX9_isPoint := fun w h => List.mem_cons_of_mem _ (List.mem_append_right _ (h))
theorem gf_X9_isPoint_9 : GF wsX9_isPoint RX9 9 8 0 := ⟨RX9, TX9, 35, rfl, in_X9_isPoint_X9, by decide, List.mem_of_getElem? (i := 1) rfl⟩
set_option maxRecDepth 100000 in
set_option maxHeartbeats 4000000 in
theorem k_X9_isPoint {g : XC} (C : XOk g cX9_isPoint RX9 wsX9_isPoint rm_X9_isPoint 2) (q : Nat → Nat) (F : Nat → Int) (p1 : Int) (K : Int → Prop) (hK : ∀ (r : Int), K r → (narrow .boolean (.int (jz r)) = .int (jz r) → FinI g 0 0 (w_X9_isPoint (xG g) q F) (jz r))) (h : wp (f_X9_isPoint p1 (F 0)) K) : WW g 0 0 (w_X9_isPoint (xG g) q F) 0 [(0, .ref (q 35)), (1, .int (jz p1))] [] := by
  unfold f_X9_isPoint at h
  refine r_iload_n C (pc := 0) dX9_isPoint_0 rfl 1 rfl ?_
  refine r_iconst C (pc := 1) dX9_isPoint_1 ?_
  refine r_aload_n C (pc := 2) dX9_isPoint_2 rfl 0 rfl ?_
  refine r_get C (pc := 3) dX9_isPoint_3 gf_X9_isPoint_9 0 rfl rfl ?_
  refine r_iconst C (pc := 6) dX9_isPoint_6 ?_
  refine r_isub C (pc := 7) dX9_isPoint_7 ?_
  obtain ⟨r8, e8, h⟩ := wp_b1 h
  refine b_cSi C (pc := 8) dX9_isPoint_8 (c_X9_in (xl g) (xG g) p1 0 ((F 0) - 1) r8 e8) rfl gX9_isPoint_X9_in ⟨rfl, rfl⟩ 3 hd_X9_in ⟨Nat.le_of_ble_eq_true rfl, Nat.le_of_ble_eq_true rfl⟩ rfl [] rfl (srt_nd 0 rfl) (ws' := w_X9_isPoint (xG g) q F) (Put.m rfl rfl rfl) rfl (rest := []) rfl (Nat.le_of_ble_eq_true rfl) ⟨Nat.zero_le _, Nat.zero_le _⟩ ?_
  exact r_iret C (pc := 11) dX9_isPoint_11 (hK r8 (wp_s (wp_g h).2) (nB (wp_g h).1).1)
theorem c_X9_isPoint (l : Launch) (G : gG) (q : Nat → Nat) (F : Nat → Int) (p1 : Int) (r : Int) (hf : f_X9_isPoint p1 (F 0) = some r) : CTi l yX9_isPoint wsX9_isPoint rm_X9_isPoint G (w_X9_isPoint G q F) [.ref (q 35), .int (jz p1)] (jz r) (w_X9_isPoint G q F) := CTi_of (by decide) rfl rfl (Nat.le_of_ble_eq_true rfl) (fun g C hG hl hF => by
    subst hG
    subst hl
    exact k_X9_isPoint C q F p1 (fun x => x = r) (fun r' e => by cases e; exact hF) ⟨_, hf, rfl⟩)

-- TightHullsModel.areTwo(II)Z
def f_X9_areTwo (p1 : Int) (p2 : Int) (m_points : Int) : Option Int := bd1 (f_X9_isPoint p1 m_points) (fun r2 => jn (fun (s0_26 : Int) => grd (isB s0_26) (some s0_26)) (fun (k26 : Int → Option Int) => jn (k26 0) (fun (k25 : Option Int) => if eqI r2 0 = true then k25 else (bd1 (f_X9_isPoint p2 m_points) (fun r10 => if eqI r10 0 = true then k25 else (if eqI p1 p2 = true then k25 else (k26 1)))))))
abbrev rm_X9_areTwo : Room := { frames := 2, cells := 0, slots := 0, locals := 43 }
abbrev w_X9_areTwo (G : gG) (q : Nat → Nat) (F : Nat → Int) : va_W := [((q 35), oX9 F q)]
theorem hd_X9_areTwo : yX9_areTwo.cls = RX9 ∧ yX9_areTwo.cls ≠ "java/lang/invoke/MethodHandle" ∧ yX9_areTwo.cls ≠ "java/lang/invoke/VarHandle" ∧ (parseMethodDescriptor yX9_areTwo.desc).map (fun d => d.parameters.length) = some 2 := by decide +kernel
set_option maxRecDepth 100000 in
set_option maxHeartbeats 4000000 in
theorem k_X9_areTwo {g : XC} (C : XOk g cX9_areTwo RX9 wsX9_areTwo rm_X9_areTwo 3) (q : Nat → Nat) (F : Nat → Int) (p1 : Int) (p2 : Int) (K : Int → Prop) (hK : ∀ (r : Int), K r → (narrow .boolean (.int (jz r)) = .int (jz r) → FinI g 0 0 (w_X9_areTwo (xG g) q F) (jz r))) (h : wp (f_X9_areTwo p1 p2 (F 0)) K) : WW g 0 0 (w_X9_areTwo (xG g) q F) 0 [(0, .ref (q 35)), (1, .int (jz p1)), (2, .int (jz p2))] [] := by
  unfold f_X9_areTwo at h
  refine r_aload_n C (pc := 0) dX9_areTwo_0 rfl 0 rfl ?_
  refine r_iload_n C (pc := 1) dX9_areTwo_1 rfl 1 rfl ?_
  obtain ⟨r2, e2, h⟩ := wp_b1 h
  refine b_cVi C (pc := 2) dX9_areTwo_2 (c_X9_isPoint (xl g) (xG g) q F p1 r2 e2) rfl gX9_areTwo_X9_isPoint ⟨rfl, rfl⟩ 1 hd_X9_isPoint ⟨Nat.le_of_ble_eq_true rfl, Nat.le_of_ble_eq_true rfl⟩ rfl 0 rfl rfl rfl [0] rfl (srt_nd 0 rfl) (ws' := w_X9_areTwo (xG g) q F) (Put.m rfl rfl rfl) rfl (rest := []) rfl (Nat.le_of_ble_eq_true rfl) ⟨Nat.zero_le _, Nat.zero_le _⟩ ?_
  refine jn_e (fun (k26 : Int → Option Int) => ∀ (s0_26 : Int), wp (k26 s0_26) K → WW g 0 0 (w_X9_areTwo (xG g) q F) 26 [] [.int (jz s0_26)]) h (fun s0_26 h => ?_) (fun k26 hk26 h => ?_)
  · exact r_iret C (pc := 26) dX9_areTwo_26 (hK s0_26 (wp_s (wp_g h).2) (nB (wp_g h).1).1)
  · refine jn_e (fun (k25 : Option Int) => wp (k25) K → WW g 0 0 (w_X9_areTwo (xG g) q F) 25 [] []) h (fun h => ?_) (fun k25 hk25 h => ?_)
    · refine r_iconst C (pc := 25) dX9_areTwo_25 ?_
      exact hk26 0 h
    · refine r_if_eq C (pc := 5) 25 dX9_areTwo_5 rfl h (fun c5 h => ?_) (fun c5 h => ?_)
      · refine r_sub [] rfl ?_
        exact hk25 h
      · refine r_aload_n C (pc := 8) dX9_areTwo_8 rfl 0 rfl ?_
        refine r_iload_n C (pc := 9) dX9_areTwo_9 rfl 2 rfl ?_
        obtain ⟨r10, e10, h⟩ := wp_b1 h
        refine b_cVi C (pc := 10) dX9_areTwo_10 (c_X9_isPoint (xl g) (xG g) q F p2 r10 e10) rfl gX9_areTwo_X9_isPoint ⟨rfl, rfl⟩ 1 hd_X9_isPoint ⟨Nat.le_of_ble_eq_true rfl, Nat.le_of_ble_eq_true rfl⟩ rfl 0 rfl rfl rfl [0] rfl (srt_nd 0 rfl) (ws' := w_X9_areTwo (xG g) q F) (Put.m rfl rfl rfl) rfl (rest := []) rfl (Nat.le_of_ble_eq_true rfl) ⟨Nat.zero_le _, Nat.zero_le _⟩ ?_
        refine r_if_eq C (pc := 13) 25 dX9_areTwo_13 rfl h (fun c13 h => ?_) (fun c13 h => ?_)
        · refine r_sub [] rfl ?_
          exact hk25 h
        · refine r_iload_n C (pc := 16) dX9_areTwo_16 rfl 1 rfl ?_
          refine r_iload_n C (pc := 17) dX9_areTwo_17 rfl 2 rfl ?_
          refine r_icmp_eq C (pc := 18) 25 dX9_areTwo_18 rfl h (fun c18 h => ?_) (fun c18 h => ?_)
          · refine r_sub [] rfl ?_
            exact hk25 h
          · refine r_iconst C (pc := 21) dX9_areTwo_21 ?_
            refine r_goto C (pc := 22) 26 dX9_areTwo_22 rfl ?_
            refine r_sub [] rfl ?_
            exact hk26 1 h
theorem c_X9_areTwo (l : Launch) (G : gG) (q : Nat → Nat) (F : Nat → Int) (p1 : Int) (p2 : Int) (r : Int) (hf : f_X9_areTwo p1 p2 (F 0) = some r) : CTi l yX9_areTwo wsX9_areTwo rm_X9_areTwo G (w_X9_areTwo G q F) [.ref (q 35), .int (jz p1), .int (jz p2)] (jz r) (w_X9_areTwo G q F) := CTi_of (by decide) rfl rfl (Nat.le_of_ble_eq_true rfl) (fun g C hG hl hF => by
    subst hG
    subst hl
    exact k_X9_areTwo C q F p1 p2 (fun x => x = r) (fun r' e => by cases e; exact hF) ⟨_, hf, rfl⟩)

-- TightHullsModel.d(II)I
def f_X9_d (p1 : Int) (p2 : Int) (c_this_far : Nat → Int) : Option Int := grd (iin ((5 * p1) + p2) 25) (some (c_this_far (ix ((5 * p1) + p2))))
abbrev rm_X9_d : Room := { frames := 0, cells := 0, slots := 0, locals := 0 }
abbrev w_X9_d (G : gG) (q : Nat → Nat) (F : Nat → Int) (c_this_far : Nat → Int) : va_W := [((q 35), oX9 F q), ((q 1), aI G 25 c_this_far)]
theorem hd_X9_d : yX9_d.cls = RX9 ∧ yX9_d.cls ≠ "java/lang/invoke/MethodHandle" ∧ yX9_d.cls ≠ "java/lang/invoke/VarHandle" ∧ (parseMethodDescriptor yX9_d.desc).map (fun d => d.parameters.length) = some 2 := by decide +kernel
theorem in_X9_d_X9 : ∀ w ∈ u_ws RX9 TX9 35, w ∈ wsX9_d := fun w h => List.mem_cons_of_mem _ (List.mem_append_right _ (h))
theorem gf_X9_d_15 : GF wsX9_d RX9 15 8 1 := ⟨RX9, TX9, 35, rfl, in_X9_d_X9, by decide, List.mem_of_getElem? (i := 1) rfl⟩
set_option maxRecDepth 100000 in
set_option maxHeartbeats 4000000 in
theorem k_X9_d {g : XC} (C : XOk g cX9_d RX9 wsX9_d rm_X9_d 3) (q : Nat → Nat) (F : Nat → Int) (c_this_far : Nat → Int) (p1 : Int) (p2 : Int) (K : Int → Prop) (hK : ∀ (r : Int), K r → (narrow .int (.int (jz r)) = .int (jz r) → FinI g 0 0 (w_X9_d (xG g) q F c_this_far) (jz r))) (h : wp (f_X9_d p1 p2 c_this_far) K) : WW g 0 0 (w_X9_d (xG g) q F c_this_far) 0 [(0, .ref (q 35)), (1, .int (jz p1)), (2, .int (jz p2))] [] := by
  unfold f_X9_d at h
  refine r_aload_n C (pc := 0) dX9_d_0 rfl 0 rfl ?_
  refine r_get C (pc := 1) dX9_d_1 gf_X9_d_15 0 rfl rfl ?_
  refine r_iconst C (pc := 4) dX9_d_4 ?_
  refine r_iload_n C (pc := 5) dX9_d_5 rfl 1 rfl ?_
  refine r_imul C (pc := 6) dX9_d_6 ?_
  refine r_iload_n C (pc := 7) dX9_d_7 rfl 2 rfl ?_
  refine r_iadd C (pc := 8) dX9_d_8 ?_
  refine r_iald C (pc := 9) dX9_d_9 h 1 rfl (fun h => ?_)
  exact r_iret C (pc := 10) dX9_d_10 (hK (c_this_far (ix ((5 * p1) + p2))) (wp_s h) rfl)
theorem c_X9_d (l : Launch) (G : gG) (q : Nat → Nat) (F : Nat → Int) (c_this_far : Nat → Int) (p1 : Int) (p2 : Int) (r : Int) (hf : f_X9_d p1 p2 c_this_far = some r) : CTi l yX9_d wsX9_d rm_X9_d G (w_X9_d G q F c_this_far) [.ref (q 35), .int (jz p1), .int (jz p2)] (jz r) (w_X9_d G q F c_this_far) := CTi_of (by decide) rfl rfl (Nat.le_of_ble_eq_true rfl) (fun g C hG hl hF => by
    subst hG
    subst hl
    exact k_X9_d C q F c_this_far p1 p2 (fun x => x = r) (fun r' e => by cases e; exact hF) ⟨_, hf, rfl⟩)

-- TightHullsModel.lays(III)V
def f_X9_lays (p1 : Int) (p2 : Int) (p3 : Int) (c_this_far : Nat → Int) : Option (Nat → Int) := grd (iin ((5 * p1) + p2) 25) (grd (iin ((5 * p2) + p1) 25) (some (up (up c_this_far (ix ((5 * p1) + p2)) p3) (ix ((5 * p2) + p1)) p3)))
abbrev rm_X9_lays : Room := { frames := 0, cells := 0, slots := 0, locals := 0 }
abbrev w_X9_lays (G : gG) (q : Nat → Nat) (F : Nat → Int) (c_this_far : Nat → Int) : va_W := [((q 35), oX9 F q), ((q 1), aI G 25 c_this_far)]
theorem hd_X9_lays : yX9_lays.cls = RX9 ∧ yX9_lays.cls ≠ "java/lang/invoke/MethodHandle" ∧ yX9_lays.cls ≠ "java/lang/invoke/VarHandle" ∧ (parseMethodDescriptor yX9_lays.desc).map (fun d => d.parameters.length) = some 3 := by decide +kernel
theorem in_X9_lays_X9 : ∀ w ∈ u_ws RX9 TX9 35, w ∈ wsX9_lays := fun w h => List.mem_cons_of_mem _ (List.mem_append_right _ (h))
theorem gf_X9_lays_15 : GF wsX9_lays RX9 15 8 1 := ⟨RX9, TX9, 35, rfl, in_X9_lays_X9, by decide, List.mem_of_getElem? (i := 1) rfl⟩
set_option maxRecDepth 100000 in
set_option maxHeartbeats 4000000 in
theorem k_X9_lays {g : XC} (C : XOk g cX9_lays RX9 wsX9_lays rm_X9_lays 4) (q : Nat → Nat) (F : Nat → Int) (c_this_far : Nat → Int) (p1 : Int) (p2 : Int) (p3 : Int) (K : (Nat → Int) → Prop) (hK : ∀ (o0 : Nat → Int), K o0 → FinV g 0 0 (w_X9_lays (xG g) q F o0)) (h : wp (f_X9_lays p1 p2 p3 c_this_far) K) : WW g 0 0 (w_X9_lays (xG g) q F c_this_far) 0 [(0, .ref (q 35)), (1, .int (jz p1)), (2, .int (jz p2)), (3, .int (jz p3))] [] := by
  unfold f_X9_lays at h
  refine r_aload_n C (pc := 0) dX9_lays_0 rfl 0 rfl ?_
  refine r_get C (pc := 1) dX9_lays_1 gf_X9_lays_15 0 rfl rfl ?_
  refine r_iconst C (pc := 4) dX9_lays_4 ?_
  refine r_iload_n C (pc := 5) dX9_lays_5 rfl 1 rfl ?_
  refine r_imul C (pc := 6) dX9_lays_6 ?_
  refine r_iload_n C (pc := 7) dX9_lays_7 rfl 2 rfl ?_
  refine r_iadd C (pc := 8) dX9_lays_8 ?_
  refine r_iload_n C (pc := 9) dX9_lays_9 rfl 3 rfl ?_
  refine r_iast C (pc := 10) dX9_lays_10 h 1 rfl (ws' := w_X9_lays (xG g) q F (up c_this_far (ix ((5 * p1) + p2)) p3)) rfl (fun h => ?_)
  refine r_aload_n C (pc := 11) dX9_lays_11 rfl 0 rfl ?_
  refine r_get C (pc := 12) dX9_lays_12 gf_X9_lays_15 0 rfl rfl ?_
  refine r_iconst C (pc := 15) dX9_lays_15 ?_
  refine r_iload_n C (pc := 16) dX9_lays_16 rfl 2 rfl ?_
  refine r_imul C (pc := 17) dX9_lays_17 ?_
  refine r_iload_n C (pc := 18) dX9_lays_18 rfl 1 rfl ?_
  refine r_iadd C (pc := 19) dX9_lays_19 ?_
  refine r_iload_n C (pc := 20) dX9_lays_20 rfl 3 rfl ?_
  refine r_iast C (pc := 21) dX9_lays_21 h 1 rfl (ws' := w_X9_lays (xG g) q F (up (up c_this_far (ix ((5 * p1) + p2)) p3) (ix ((5 * p2) + p1)) p3)) rfl (fun h => ?_)
  exact r_vret C (pc := 22) dX9_lays_22 (hK (up (up c_this_far (ix ((5 * p1) + p2)) p3) (ix ((5 * p2) + p1)) p3) (wp_s h))
theorem c_X9_lays (l : Launch) (G : gG) (q : Nat → Nat) (F : Nat → Int) (c_this_far : Nat → Int) (p1 : Int) (p2 : Int) (p3 : Int) (o0 : Nat → Int) (hf : f_X9_lays p1 p2 p3 c_this_far = some o0) : CTv l yX9_lays wsX9_lays rm_X9_lays G (w_X9_lays G q F c_this_far) [.ref (q 35), .int (jz p1), .int (jz p2), .int (jz p3)] (w_X9_lays G q F o0) := CTv_of (by decide) rfl rfl (Nat.le_of_ble_eq_true rfl) (fun g C hG hl hF => by
    subst hG
    subst hl
    exact k_X9_lays C q F c_this_far p1 p2 p3 (fun x => x = o0) (fun o0' e => by cases e; exact hF) ⟨_, hf, rfl⟩)

-- TightHullsModel.points(I)I
def f_X9_points (p1 : Int) (m_points : Int) (c_this_far : Nat → Int) (c_this_number : Nat → Int) (c_this_becomes : Nat → Int) : Option (Int × Int × (Nat → Int) × (Nat → Int) × (Nat → Int)) := bd1 (f_X9_in p1 3 5) (fun r3 => if eqI r3 0 = true then (some ((-2), m_points, c_this_far, c_this_number, c_this_becomes)) else (lq4 (fun (n24 : Int → (Nat → Int) → (Nat → Int) → (Nat → Int) → Option (Int × Int × (Nat → Int) × (Nat → Int) × (Nat → Int))) (v3_24 : Int) (this_far_24 : Nat → Int) (this_number_24 : Nat → Int) (this_becomes_24 : Nat → Int) => if ltI v3_24 5 = true then (grd (iin v3_24 5) (grd (iin v3_24 5) (lq2 (fun (n46 : Int → (Nat → Int) → Option (Int × Int × (Nat → Int) × (Nat → Int) × (Nat → Int))) (v4_46 : Int) (this_far_46 : Nat → Int) => if ltI v4_46 v3_24 = true then (bd1 (f_X9_lays v3_24 v4_46 2 this_far_46) (fun this_far_57 => n46 (v4_46 + 1) this_far_57)) else (n24 (v3_24 + 1) this_far_46 (up this_number_24 (ix v3_24) 0) (up this_becomes_24 (ix v3_24) v3_24))) 300 0 this_far_24))) else (some (m_points, p1, this_far_24, this_number_24, this_becomes_24))) 300 0 c_this_far c_this_number c_this_becomes))
abbrev rm_X9_points : Room := { frames := 1, cells := 0, slots := 0, locals := 23 }
abbrev w_X9_points (G : gG) (q : Nat → Nat) (F : Nat → Int) (c_this_far : Nat → Int) (c_this_number : Nat → Int) (c_this_becomes : Nat → Int) : va_W := [((q 35), oX9 F q), ((q 1), aI G 25 c_this_far), ((q 2), aI G 5 c_this_number), ((q 3), aI G 5 c_this_becomes)]
theorem hd_X9_points : yX9_points.cls = RX9 ∧ yX9_points.cls ≠ "java/lang/invoke/MethodHandle" ∧ yX9_points.cls ≠ "java/lang/invoke/VarHandle" ∧ (parseMethodDescriptor yX9_points.desc).map (fun d => d.parameters.length) = some 1 := by decide +kernel
theorem in_X9_points_X9 : ∀ w ∈ u_ws RX9 TX9 35, w ∈ wsX9_points := fun w h => List.mem_cons_of_mem _ (List.mem_append_right _ (h))
theorem gf_X9_points_9 : GF wsX9_points RX9 9 8 0 := ⟨RX9, TX9, 35, rfl, in_X9_points_X9, by decide, List.mem_of_getElem? (i := 1) rfl⟩
theorem pf_X9_points_9 : PF wsX9_points RX9 9 8 0 .int false := ⟨RX9, TX9, 35, tyX9, rfl, in_X9_points_X9, tyX9_ok, nmX9, by decide, List.mem_of_getElem? (i := 1) rfl, rfl, rfl, rfl⟩
theorem gf_X9_points_19 : GF wsX9_points RX9 19 8 2 := ⟨RX9, TX9, 35, rfl, in_X9_points_X9, by decide, List.mem_of_getElem? (i := 2) rfl⟩
theorem gf_X9_points_22 : GF wsX9_points RX9 22 8 3 := ⟨RX9, TX9, 35, rfl, in_X9_points_X9, by decide, List.mem_of_getElem? (i := 3) rfl⟩
set_option maxRecDepth 100000 in
set_option maxHeartbeats 4000000 in
theorem k_X9_points {g : XC} (C : XOk g cX9_points RX9 wsX9_points rm_X9_points 5) (q : Nat → Nat) (F : Nat → Int) (c_this_far : Nat → Int) (c_this_number : Nat → Int) (c_this_becomes : Nat → Int) (p1 : Int) (K : (Int × Int × (Nat → Int) × (Nat → Int) × (Nat → Int)) → Prop) (hK : ∀ (r : Int) (o0 : Int) (o1 : Nat → Int) (o2 : Nat → Int) (o3 : Nat → Int), K (r, o0, o1, o2, o3) → (narrow .int (.int (jz r)) = .int (jz r) → FinI g 0 0 (w_X9_points (xG g) q (up F 0 o0) o1 o2 o3) (jz r))) (h : wp (f_X9_points p1 (F 0) c_this_far c_this_number c_this_becomes) K) : WW g 0 0 (w_X9_points (xG g) q F c_this_far c_this_number c_this_becomes) 0 [(0, .ref (q 35)), (1, .int (jz p1))] [] := by
  unfold f_X9_points at h
  refine r_iload_n C (pc := 0) dX9_points_0 rfl 1 rfl ?_
  refine r_iconst C (pc := 1) dX9_points_1 ?_
  refine r_iconst C (pc := 2) dX9_points_2 ?_
  obtain ⟨r3, e3, h⟩ := wp_b1 h
  refine b_cSi C (pc := 3) dX9_points_3 (c_X9_in (xl g) (xG g) p1 3 5 r3 e3) rfl gX9_points_X9_in ⟨rfl, rfl⟩ 3 hd_X9_in ⟨Nat.le_of_ble_eq_true rfl, Nat.le_of_ble_eq_true rfl⟩ rfl [] rfl (srt_nd 0 rfl) (ws' := w_X9_points (xG g) q F c_this_far c_this_number c_this_becomes) (Put.m rfl rfl rfl) rfl (rest := []) rfl (Nat.le_of_ble_eq_true rfl) ⟨Nat.zero_le _, Nat.zero_le _⟩ ?_
  refine r_if_ne C (pc := 6) 12 dX9_points_6 rfl h (fun c6 h => ?_) (fun c6 h => ?_)
  · refine r_aload_n C (pc := 12) dX9_points_12 rfl 0 rfl ?_
    refine r_get C (pc := 13) dX9_points_13 gf_X9_points_9 0 rfl rfl ?_
    refine r_istore_n C (pc := 16) dX9_points_16 rfl (by decide) (L' := [(0, .ref (q 35)), (1, .int (jz p1)), (2, .int (jz (F 0)))]) rfl ?_
    refine r_aload_n C (pc := 17) dX9_points_17 rfl 0 rfl ?_
    refine r_iload_n C (pc := 18) dX9_points_18 rfl 1 rfl ?_
    refine r_puti C (pc := 19) dX9_points_19 pf_X9_points_9 0 rfl (Nat.le_of_ble_eq_true rfl) (ws' := w_X9_points (xG g) q (up F 0 p1) c_this_far c_this_number c_this_becomes) rfl ?_
    refine r_iconst C (pc := 22) dX9_points_22 ?_
    refine r_istore_n C (pc := 23) dX9_points_23 rfl (by decide) (L' := [(0, .ref (q 35)), (1, .int (jz p1)), (2, .int (jz (F 0))), (3, .int (jz 0))]) rfl ?_
    refine r_sub [0, 2, 3] rfl ?_
    refine lq4_e (fun (v3_24 : Int) (this_far_24 : Nat → Int) (this_number_24 : Nat → Int) (this_becomes_24 : Nat → Int) => WW g 0 0 (w_X9_points (xG g) q (up F 0 p1) this_far_24 this_number_24 this_becomes_24) 24 [(0, .ref (q 35)), (2, .int (jz (F 0))), (3, .int (jz v3_24))] []) h (fun n24 hn24 v3_24 this_far_24 this_number_24 this_becomes_24 h => ?_)
    refine r_iload_n C (pc := 24) dX9_points_24 rfl 2 rfl ?_
    refine r_iconst C (pc := 25) dX9_points_25 ?_
    refine r_icmp_ge C (pc := 26) 72 dX9_points_26 rfl h (fun c26 h => ?_) (fun c26 h => ?_)
    · refine r_iload_n C (pc := 72) dX9_points_72 rfl 1 rfl ?_
      exact r_iret C (pc := 73) dX9_points_73 (hK (F 0) p1 this_far_24 this_number_24 this_becomes_24 (wp_s h) rfl)
    · refine r_aload_n C (pc := 29) dX9_points_29 rfl 0 rfl ?_
      refine r_get C (pc := 30) dX9_points_30 gf_X9_points_19 0 rfl rfl ?_
      refine r_iload_n C (pc := 33) dX9_points_33 rfl 2 rfl ?_
      refine r_iconst C (pc := 34) dX9_points_34 ?_
      refine r_iast C (pc := 35) dX9_points_35 h 2 rfl (ws' := w_X9_points (xG g) q (up F 0 p1) this_far_24 (up this_number_24 (ix v3_24) 0) this_becomes_24) rfl (fun h => ?_)
      refine r_aload_n C (pc := 36) dX9_points_36 rfl 0 rfl ?_
      refine r_get C (pc := 37) dX9_points_37 gf_X9_points_22 0 rfl rfl ?_
      refine r_iload_n C (pc := 40) dX9_points_40 rfl 2 rfl ?_
      refine r_iload_n C (pc := 41) dX9_points_41 rfl 2 rfl ?_
      refine r_iast C (pc := 42) dX9_points_42 h 3 rfl (ws' := w_X9_points (xG g) q (up F 0 p1) this_far_24 (up this_number_24 (ix v3_24) 0) (up this_becomes_24 (ix v3_24) v3_24)) rfl (fun h => ?_)
      refine r_iconst C (pc := 43) dX9_points_43 ?_
      refine r_istore C (pc := 44) dX9_points_44 (by decide) (L' := [(0, .ref (q 35)), (2, .int (jz (F 0))), (3, .int (jz v3_24)), (4, .int (jz 0))]) rfl ?_
      refine lq2_e (fun (v4_46 : Int) (this_far_46 : Nat → Int) => WW g 0 0 (w_X9_points (xG g) q (up F 0 p1) this_far_46 (up this_number_24 (ix v3_24) 0) (up this_becomes_24 (ix v3_24) v3_24)) 46 [(0, .ref (q 35)), (2, .int (jz (F 0))), (3, .int (jz v3_24)), (4, .int (jz v4_46))] []) h (fun n46 hn46 v4_46 this_far_46 h => ?_)
      refine r_iload C (pc := 46) dX9_points_46 3 rfl ?_
      refine r_iload_n C (pc := 48) dX9_points_48 rfl 2 rfl ?_
      refine r_icmp_ge C (pc := 49) 66 dX9_points_49 rfl h (fun c49 h => ?_) (fun c49 h => ?_)
      · refine r_iinc C (pc := 66) dX9_points_66 2 rfl (by decide) (L' := [(0, .ref (q 35)), (2, .int (jz (F 0))), (3, .int (jz (v3_24 + 1))), (4, .int (jz v4_46))]) rfl ?_
        refine r_goto C (pc := 69) 24 dX9_points_69 rfl ?_
        refine r_sub [0, 1, 2] rfl ?_
        exact hn24 (v3_24 + 1) this_far_46 (up this_number_24 (ix v3_24) 0) (up this_becomes_24 (ix v3_24) v3_24) h
      · refine r_aload_n C (pc := 52) dX9_points_52 rfl 0 rfl ?_
        refine r_iload_n C (pc := 53) dX9_points_53 rfl 2 rfl ?_
        refine r_iload C (pc := 54) dX9_points_54 3 rfl ?_
        refine r_iconst C (pc := 56) dX9_points_56 ?_
        obtain ⟨this_far_57, e57, h⟩ := wp_b1 h
        refine b_cVv C (pc := 57) dX9_points_57 (c_X9_lays (xl g) (xG g) q (up F 0 p1) this_far_46 v3_24 v4_46 2 this_far_57 e57) rfl gX9_points_X9_lays ⟨rfl, rfl⟩ 3 hd_X9_lays ⟨Nat.le_of_ble_eq_true rfl, Nat.le_of_ble_eq_true rfl⟩ rfl 0 rfl rfl rfl [0, 1] rfl (srt_nd 0 rfl) (ws' := w_X9_points (xG g) q (up F 0 p1) this_far_57 (up this_number_24 (ix v3_24) 0) (up this_becomes_24 (ix v3_24) v3_24)) (Put.m rfl rfl rfl) rfl (rest := []) rfl (Nat.le_of_ble_eq_true rfl) ⟨Nat.zero_le _, Nat.zero_le _⟩ ?_
        refine r_iinc C (pc := 60) dX9_points_60 3 rfl (by decide) (L' := [(0, .ref (q 35)), (2, .int (jz (F 0))), (3, .int (jz v3_24)), (4, .int (jz (v4_46 + 1)))]) rfl ?_
        refine r_goto C (pc := 63) 46 dX9_points_63 rfl ?_
        exact hn46 (v4_46 + 1) this_far_57 h
  · refine r_bipush C (pc := 9) dX9_points_9 rfl ?_
    exact r_iret C (pc := 11) dX9_points_11 (hK (-2) (F 0) c_this_far c_this_number c_this_becomes (wp_s h) rfl)
theorem c_X9_points (l : Launch) (G : gG) (q : Nat → Nat) (F : Nat → Int) (c_this_far : Nat → Int) (c_this_number : Nat → Int) (c_this_becomes : Nat → Int) (p1 : Int) (r : Int) (o0 : Int) (o1 : Nat → Int) (o2 : Nat → Int) (o3 : Nat → Int) (hf : f_X9_points p1 (F 0) c_this_far c_this_number c_this_becomes = some (r, o0, o1, o2, o3)) : CTi l yX9_points wsX9_points rm_X9_points G (w_X9_points G q F c_this_far c_this_number c_this_becomes) [.ref (q 35), .int (jz p1)] (jz r) (w_X9_points G q (up F 0 o0) o1 o2 o3) := CTi_of (by decide) rfl rfl (Nat.le_of_ble_eq_true rfl) (fun g C hG hl hF => by
    subst hG
    subst hl
    exact k_X9_points C q F c_this_far c_this_number c_this_becomes p1 (fun x => x = (r, o0, o1, o2, o3)) (fun r' o0' o1' o2' o3' e => by cases e; exact hF) ⟨_, hf, rfl⟩)

-- TightHullsModel.set(III)I
def f_X9_set (p1 : Int) (p2 : Int) (p3 : Int) (m_points : Int) (c_this_far : Nat → Int) : Option (Int × (Nat → Int)) := bd1 (f_X9_areTwo p1 p2 m_points) (fun r3 => if eqI r3 0 = true then (some ((-1), c_this_far)) else (bd1 (f_X9_in p3 0 40) (fun r15 => if eqI r15 0 = true then (some ((-2), c_this_far)) else (bd1 (f_X9_d p1 p2 c_this_far) (fun r27 => bd1 (f_X9_lays p1 p2 p3 c_this_far) (fun this_far_36 => some (r27, this_far_36)))))))
abbrev rm_X9_set : Room := { frames := 3, cells := 0, slots := 0, locals := 65 }
abbrev w_X9_set (G : gG) (q : Nat → Nat) (F : Nat → Int) (c_this_far : Nat → Int) : va_W := [((q 35), oX9 F q), ((q 1), aI G 25 c_this_far)]
theorem hd_X9_set : yX9_set.cls = RX9 ∧ yX9_set.cls ≠ "java/lang/invoke/MethodHandle" ∧ yX9_set.cls ≠ "java/lang/invoke/VarHandle" ∧ (parseMethodDescriptor yX9_set.desc).map (fun d => d.parameters.length) = some 3 := by decide +kernel
set_option maxRecDepth 100000 in
set_option maxHeartbeats 4000000 in
theorem k_X9_set {g : XC} (C : XOk g cX9_set RX9 wsX9_set rm_X9_set 5) (q : Nat → Nat) (F : Nat → Int) (c_this_far : Nat → Int) (p1 : Int) (p2 : Int) (p3 : Int) (K : (Int × (Nat → Int)) → Prop) (hK : ∀ (r : Int) (o0 : Nat → Int), K (r, o0) → (narrow .int (.int (jz r)) = .int (jz r) → FinI g 0 0 (w_X9_set (xG g) q F o0) (jz r))) (h : wp (f_X9_set p1 p2 p3 (F 0) c_this_far) K) : WW g 0 0 (w_X9_set (xG g) q F c_this_far) 0 [(0, .ref (q 35)), (1, .int (jz p1)), (2, .int (jz p2)), (3, .int (jz p3))] [] := by
  unfold f_X9_set at h
  refine r_aload_n C (pc := 0) dX9_set_0 rfl 0 rfl ?_
  refine r_iload_n C (pc := 1) dX9_set_1 rfl 1 rfl ?_
  refine r_iload_n C (pc := 2) dX9_set_2 rfl 2 rfl ?_
  obtain ⟨r3, e3, h⟩ := wp_b1 h
  refine b_cVi C (pc := 3) dX9_set_3 (c_X9_areTwo (xl g) (xG g) q F p1 p2 r3 e3) rfl gX9_set_X9_areTwo ⟨rfl, rfl⟩ 2 hd_X9_areTwo ⟨Nat.le_of_ble_eq_true rfl, Nat.le_of_ble_eq_true rfl⟩ rfl 0 rfl rfl rfl [0] rfl (srt_nd 0 rfl) (ws' := w_X9_set (xG g) q F c_this_far) (Put.m rfl rfl rfl) rfl (rest := []) rfl (Nat.le_of_ble_eq_true rfl) ⟨Nat.zero_le _, Nat.zero_le _⟩ ?_
  refine r_if_ne C (pc := 6) 11 dX9_set_6 rfl h (fun c6 h => ?_) (fun c6 h => ?_)
  · refine r_iload_n C (pc := 11) dX9_set_11 rfl 3 rfl ?_
    refine r_iconst C (pc := 12) dX9_set_12 ?_
    refine r_bipush C (pc := 13) dX9_set_13 rfl ?_
    obtain ⟨r15, e15, h⟩ := wp_b1 h
    refine b_cSi C (pc := 15) dX9_set_15 (c_X9_in (xl g) (xG g) p3 0 40 r15 e15) rfl gX9_set_X9_in ⟨rfl, rfl⟩ 3 hd_X9_in ⟨Nat.le_of_ble_eq_true rfl, Nat.le_of_ble_eq_true rfl⟩ rfl [] rfl (srt_nd 0 rfl) (ws' := w_X9_set (xG g) q F c_this_far) (Put.m rfl rfl rfl) rfl (rest := []) rfl (Nat.le_of_ble_eq_true rfl) ⟨Nat.zero_le _, Nat.zero_le _⟩ ?_
    refine r_if_ne C (pc := 18) 24 dX9_set_18 rfl h (fun c18 h => ?_) (fun c18 h => ?_)
    · refine r_aload_n C (pc := 24) dX9_set_24 rfl 0 rfl ?_
      refine r_iload_n C (pc := 25) dX9_set_25 rfl 1 rfl ?_
      refine r_iload_n C (pc := 26) dX9_set_26 rfl 2 rfl ?_
      obtain ⟨r27, e27, h⟩ := wp_b1 h
      refine b_cVi C (pc := 27) dX9_set_27 (c_X9_d (xl g) (xG g) q F c_this_far p1 p2 r27 e27) rfl gX9_set_X9_d ⟨rfl, rfl⟩ 2 hd_X9_d ⟨Nat.le_of_ble_eq_true rfl, Nat.le_of_ble_eq_true rfl⟩ rfl 0 rfl rfl rfl [0, 1] rfl (srt_nd 0 rfl) (ws' := w_X9_set (xG g) q F c_this_far) (Put.m rfl rfl rfl) rfl (rest := []) rfl (Nat.le_of_ble_eq_true rfl) ⟨Nat.zero_le _, Nat.zero_le _⟩ ?_
      refine r_istore C (pc := 30) dX9_set_30 (by decide) (L' := [(0, .ref (q 35)), (1, .int (jz p1)), (2, .int (jz p2)), (3, .int (jz p3)), (4, .int (jz r27))]) rfl ?_
      refine r_aload_n C (pc := 32) dX9_set_32 rfl 0 rfl ?_
      refine r_iload_n C (pc := 33) dX9_set_33 rfl 1 rfl ?_
      refine r_iload_n C (pc := 34) dX9_set_34 rfl 2 rfl ?_
      refine r_iload_n C (pc := 35) dX9_set_35 rfl 3 rfl ?_
      obtain ⟨this_far_36, e36, h⟩ := wp_b1 h
      refine b_cVv C (pc := 36) dX9_set_36 (c_X9_lays (xl g) (xG g) q F c_this_far p1 p2 p3 this_far_36 e36) rfl gX9_set_X9_lays ⟨rfl, rfl⟩ 3 hd_X9_lays ⟨Nat.le_of_ble_eq_true rfl, Nat.le_of_ble_eq_true rfl⟩ rfl 0 rfl rfl rfl [0, 1] rfl (srt_nd 0 rfl) (ws' := w_X9_set (xG g) q F this_far_36) (Put.m rfl rfl rfl) rfl (rest := []) rfl (Nat.le_of_ble_eq_true rfl) ⟨Nat.zero_le _, Nat.zero_le _⟩ ?_
      refine r_iload C (pc := 39) dX9_set_39 4 rfl ?_
      exact r_iret C (pc := 41) dX9_set_41 (hK r27 this_far_36 (wp_s h) rfl)
    · refine r_bipush C (pc := 21) dX9_set_21 rfl ?_
      exact r_iret C (pc := 23) dX9_set_23 (hK (-2) c_this_far (wp_s h) rfl)
  · refine r_iconst C (pc := 9) dX9_set_9 ?_
    exact r_iret C (pc := 10) dX9_set_10 (hK (-1) c_this_far (wp_s h) rfl)
theorem c_X9_set (l : Launch) (G : gG) (q : Nat → Nat) (F : Nat → Int) (c_this_far : Nat → Int) (p1 : Int) (p2 : Int) (p3 : Int) (r : Int) (o0 : Nat → Int) (hf : f_X9_set p1 p2 p3 (F 0) c_this_far = some (r, o0)) : CTi l yX9_set wsX9_set rm_X9_set G (w_X9_set G q F c_this_far) [.ref (q 35), .int (jz p1), .int (jz p2), .int (jz p3)] (jz r) (w_X9_set G q F o0) := CTi_of (by decide) rfl rfl (Nat.le_of_ble_eq_true rfl) (fun g C hG hl hF => by
    subst hG
    subst hl
    exact k_X9_set C q F c_this_far p1 p2 p3 (fun x => x = (r, o0)) (fun r' o0' e => by cases e; exact hF) ⟨_, hf, rfl⟩)

-- TightHullsModel.shortens()I
def f_X9_shortens (m_points : Int) (c_this_far : Nat → Int) (c_this_kept : Nat → Int) : Option (Int × (Nat → Int) × (Nat → Int)) := lq2 (fun (n4 : Int → (Nat → Int) → Option (Int × (Nat → Int) × (Nat → Int))) (v2_4 : Int) (this_kept_4 : Nat → Int) => if ltI v2_4 m_points = true then (lq2 (fun (n14 : Int → (Nat → Int) → Option (Int × (Nat → Int) × (Nat → Int))) (v3_14 : Int) (this_kept_14 : Nat → Int) => if ltI v3_14 v2_4 = true then (bd1 (f_X9_d v2_4 v3_14 c_this_far) (fun r31 => grd (iin ((5 * v2_4) + v3_14) 25) (n14 (v3_14 + 1) (up this_kept_14 (ix ((5 * v2_4) + v3_14)) r31)))) else (n4 (v2_4 + 1) this_kept_14)) 300 0 this_kept_4) else (lq2 (fun (n49 : Int → (Nat → Int) → Option (Int × (Nat → Int) × (Nat → Int))) (v2_49 : Int) (this_far_49 : Nat → Int) => if ltI v2_49 m_points = true then (lq2 (fun (n59 : Int → (Nat → Int) → Option (Int × (Nat → Int) × (Nat → Int))) (v3_59 : Int) (this_far_59 : Nat → Int) => if ltI v3_59 m_points = true then (lq2 (fun (n70 : Int → (Nat → Int) → Option (Int × (Nat → Int) × (Nat → Int))) (v4_70 : Int) (this_far_70 : Nat → Int) => if ltI v4_70 v3_59 = true then (bd1 (f_X9_d v3_59 v4_70 this_far_70) (fun r84 => bd1 (f_X9_d v3_59 v2_49 this_far_70) (fun r90 => bd1 (f_X9_d v2_49 v4_70 this_far_70) (fun r97 => bd1 (f_X9_lays v3_59 v4_70 (minI r84 (r90 + r97)) this_far_70) (fun this_far_104 => n70 (v4_70 + 1) this_far_104))))) else (n59 (v3_59 + 1) this_far_70)) 300 0 this_far_59) else (n49 (v2_49 + 1) this_far_59)) 300 0 this_far_49) else (lq2 (fun (n127 : Int → Int → Option (Int × (Nat → Int) × (Nat → Int))) (v1_127 : Int) (v2_127 : Int) => if ltI v2_127 m_points = true then (lq2 (fun (n137 : Int → Int → Option (Int × (Nat → Int) × (Nat → Int))) (v1_137 : Int) (v3_137 : Int) => if ltI v3_137 v2_127 = true then (grd (iin ((5 * v2_127) + v3_137) 25) (bd1 (f_X9_d v2_127 v3_137 this_far_49) (fun r156 => jn (fun (s1_167 : Int) => lv ((v1_137 + s1_167)) (fun x168 => n137 x168 (v3_137 + 1))) (fun (k167 : Int → Option (Int × (Nat → Int) × (Nat → Int))) => if eqI (this_kept_4 (ix ((5 * v2_127) + v3_137))) r156 = true then (k167 0) else (k167 1))))) else (n127 v1_137 (v2_127 + 1))) 300 v1_127 0) else (some (v1_127, this_far_49, this_kept_4))) 300 0 0)) 300 0 c_this_far)) 300 0 c_this_kept
abbrev rm_X9_shortens : Room := { frames := 1, cells := 0, slots := 0, locals := 60 }
abbrev w_X9_shortens (G : gG) (q : Nat → Nat) (F : Nat → Int) (c_this_far : Nat → Int) (c_this_kept : Nat → Int) : va_W := [((q 35), oX9 F q), ((q 1), aI G 25 c_this_far), ((q 20), aI G 25 c_this_kept)]
theorem hd_X9_shortens : yX9_shortens.cls = RX9 ∧ yX9_shortens.cls ≠ "java/lang/invoke/MethodHandle" ∧ yX9_shortens.cls ≠ "java/lang/invoke/VarHandle" ∧ (parseMethodDescriptor yX9_shortens.desc).map (fun d => d.parameters.length) = some 0 := by decide +kernel
theorem in_X9_shortens_X9 : ∀ w ∈ u_ws RX9 TX9 35, w ∈ wsX9_shortens := fun w h => List.mem_cons_of_mem _ (List.mem_append_right _ (h))
theorem gf_X9_shortens_9 : GF wsX9_shortens RX9 9 8 0 := ⟨RX9, TX9, 35, rfl, in_X9_shortens_X9, by decide, List.mem_of_getElem? (i := 1) rfl⟩
theorem gf_X9_shortens_62 : GF wsX9_shortens RX9 62 8 20 := ⟨RX9, TX9, 35, rfl, in_X9_shortens_X9, by decide, List.mem_of_getElem? (i := 2) rfl⟩
theorem mm_X9_shortens_3 : Cond.methodLink RX9 115 Lib.Math.min.name ∈ wsX9_shortens := List.mem_of_getElem? (i := 3) rfl
theorem mm_X9_shortens_4 : Cond.static Lib.Math.min.name ∈ wsX9_shortens := List.mem_of_getElem? (i := 4) rfl
theorem mm_X9_shortens_5 : Cond.initialized "java/lang/Math" ∈ wsX9_shortens := List.mem_of_getElem? (i := 5) rfl
theorem mm_X9_shortens_6 : Cond.code Lib.Math.min.name Lib.Math.min.code 2 (some .int) ∈ wsX9_shortens := List.mem_of_getElem? (i := 6) rfl
set_option maxRecDepth 100000 in
set_option maxHeartbeats 4000000 in
theorem k_X9_shortens {g : XC} (C : XOk g cX9_shortens RX9 wsX9_shortens rm_X9_shortens 5) (q : Nat → Nat) (F : Nat → Int) (c_this_far : Nat → Int) (c_this_kept : Nat → Int)  (K : (Int × (Nat → Int) × (Nat → Int)) → Prop) (hK : ∀ (r : Int) (o0 : Nat → Int) (o1 : Nat → Int), K (r, o0, o1) → (narrow .int (.int (jz r)) = .int (jz r) → FinI g 0 0 (w_X9_shortens (xG g) q F o0 o1) (jz r))) (h : wp (f_X9_shortens (F 0) c_this_far c_this_kept) K) : WW g 0 0 (w_X9_shortens (xG g) q F c_this_far c_this_kept) 0 [(0, .ref (q 35))] [] := by
  unfold f_X9_shortens at h
  refine r_iconst C (pc := 0) dX9_shortens_0 ?_
  refine r_istore_n C (pc := 1) dX9_shortens_1 rfl (by decide) (L' := [(0, .ref (q 35)), (1, .int (jz 0))]) rfl ?_
  refine r_iconst C (pc := 2) dX9_shortens_2 ?_
  refine r_istore_n C (pc := 3) dX9_shortens_3 rfl (by decide) (L' := [(0, .ref (q 35)), (1, .int (jz 0)), (2, .int (jz 0))]) rfl ?_
  refine lq2_e (fun (v2_4 : Int) (this_kept_4 : Nat → Int) => WW g 0 0 (w_X9_shortens (xG g) q F c_this_far this_kept_4) 4 [(0, .ref (q 35)), (1, .int (jz 0)), (2, .int (jz v2_4))] []) h (fun n4 hn4 v2_4 this_kept_4 h => ?_)
  refine r_iload_n C (pc := 4) dX9_shortens_4 rfl 2 rfl ?_
  refine r_aload_n C (pc := 5) dX9_shortens_5 rfl 0 rfl ?_
  refine r_get C (pc := 6) dX9_shortens_6 gf_X9_shortens_9 0 rfl rfl ?_
  refine r_icmp_ge C (pc := 9) 47 dX9_shortens_9 rfl h (fun c9 h => ?_) (fun c9 h => ?_)
  · refine r_iconst C (pc := 47) dX9_shortens_47 ?_
    refine r_istore_n C (pc := 48) dX9_shortens_48 rfl (by decide) (L' := [(0, .ref (q 35)), (1, .int (jz 0)), (2, .int (jz 0))]) rfl ?_
    refine lq2_e (fun (v2_49 : Int) (this_far_49 : Nat → Int) => WW g 0 0 (w_X9_shortens (xG g) q F this_far_49 this_kept_4) 49 [(0, .ref (q 35)), (1, .int (jz 0)), (2, .int (jz v2_49))] []) h (fun n49 hn49 v2_49 this_far_49 h => ?_)
    refine r_iload_n C (pc := 49) dX9_shortens_49 rfl 2 rfl ?_
    refine r_aload_n C (pc := 50) dX9_shortens_50 rfl 0 rfl ?_
    refine r_get C (pc := 51) dX9_shortens_51 gf_X9_shortens_9 0 rfl rfl ?_
    refine r_icmp_ge C (pc := 54) 125 dX9_shortens_54 rfl h (fun c54 h => ?_) (fun c54 h => ?_)
    · refine r_iconst C (pc := 125) dX9_shortens_125 ?_
      refine r_istore_n C (pc := 126) dX9_shortens_126 rfl (by decide) (L' := [(0, .ref (q 35)), (1, .int (jz 0)), (2, .int (jz 0))]) rfl ?_
      refine lq2_e (fun (v1_127 : Int) (v2_127 : Int) => WW g 0 0 (w_X9_shortens (xG g) q F this_far_49 this_kept_4) 127 [(0, .ref (q 35)), (1, .int (jz v1_127)), (2, .int (jz v2_127))] []) h (fun n127 hn127 v1_127 v2_127 h => ?_)
      refine r_iload_n C (pc := 127) dX9_shortens_127 rfl 2 rfl ?_
      refine r_aload_n C (pc := 128) dX9_shortens_128 rfl 0 rfl ?_
      refine r_get C (pc := 129) dX9_shortens_129 gf_X9_shortens_9 0 rfl rfl ?_
      refine r_icmp_ge C (pc := 132) 181 dX9_shortens_132 rfl h (fun c132 h => ?_) (fun c132 h => ?_)
      · refine r_iload_n C (pc := 181) dX9_shortens_181 rfl 1 rfl ?_
        exact r_iret C (pc := 182) dX9_shortens_182 (hK v1_127 this_far_49 this_kept_4 (wp_s h) rfl)
      · refine r_iconst C (pc := 135) dX9_shortens_135 ?_
        refine r_istore_n C (pc := 136) dX9_shortens_136 rfl (by decide) (L' := [(0, .ref (q 35)), (1, .int (jz v1_127)), (2, .int (jz v2_127)), (3, .int (jz 0))]) rfl ?_
        refine lq2_e (fun (v1_137 : Int) (v3_137 : Int) => WW g 0 0 (w_X9_shortens (xG g) q F this_far_49 this_kept_4) 137 [(0, .ref (q 35)), (1, .int (jz v1_137)), (2, .int (jz v2_127)), (3, .int (jz v3_137))] []) h (fun n137 hn137 v1_137 v3_137 h => ?_)
        refine r_iload_n C (pc := 137) dX9_shortens_137 rfl 3 rfl ?_
        refine r_iload_n C (pc := 138) dX9_shortens_138 rfl 2 rfl ?_
        refine r_icmp_ge C (pc := 139) 175 dX9_shortens_139 rfl h (fun c139 h => ?_) (fun c139 h => ?_)
        · refine r_iinc C (pc := 175) dX9_shortens_175 2 rfl (by decide) (L' := [(0, .ref (q 35)), (1, .int (jz v1_137)), (2, .int (jz (v2_127 + 1))), (3, .int (jz v3_137))]) rfl ?_
          refine r_goto C (pc := 178) 127 dX9_shortens_178 rfl ?_
          refine r_sub [0, 1, 2] rfl ?_
          exact hn127 v1_137 (v2_127 + 1) h
        · refine r_iload_n C (pc := 142) dX9_shortens_142 rfl 1 rfl ?_
          refine r_aload_n C (pc := 143) dX9_shortens_143 rfl 0 rfl ?_
          refine r_get C (pc := 144) dX9_shortens_144 gf_X9_shortens_62 0 rfl rfl ?_
          refine r_iconst C (pc := 147) dX9_shortens_147 ?_
          refine r_iload_n C (pc := 148) dX9_shortens_148 rfl 2 rfl ?_
          refine r_imul C (pc := 149) dX9_shortens_149 ?_
          refine r_iload_n C (pc := 150) dX9_shortens_150 rfl 3 rfl ?_
          refine r_iadd C (pc := 151) dX9_shortens_151 ?_
          refine r_iald C (pc := 152) dX9_shortens_152 h 2 rfl (fun h => ?_)
          refine r_aload_n C (pc := 153) dX9_shortens_153 rfl 0 rfl ?_
          refine r_iload_n C (pc := 154) dX9_shortens_154 rfl 2 rfl ?_
          refine r_iload_n C (pc := 155) dX9_shortens_155 rfl 3 rfl ?_
          obtain ⟨r156, e156, h⟩ := wp_b1 h
          refine b_cVi C (pc := 156) dX9_shortens_156 (c_X9_d (xl g) (xG g) q F this_far_49 v2_127 v3_137 r156 e156) rfl gX9_shortens_X9_d ⟨rfl, rfl⟩ 2 hd_X9_d ⟨Nat.le_of_ble_eq_true rfl, Nat.le_of_ble_eq_true rfl⟩ rfl 0 rfl rfl rfl [0, 1] rfl (srt_nd 0 rfl) (ws' := w_X9_shortens (xG g) q F this_far_49 this_kept_4) (Put.m rfl rfl rfl) rfl (rest := [.int (jz (this_kept_4 (ix ((5 * v2_127) + v3_137)))), .int (jz v1_137)]) rfl (Nat.le_of_ble_eq_true rfl) ⟨Nat.zero_le _, Nat.zero_le _⟩ ?_
          refine jn_e (fun (k167 : Int → Option (Int × (Nat → Int) × (Nat → Int))) => ∀ (s1_167 : Int), wp (k167 s1_167) K → WW g 0 0 (w_X9_shortens (xG g) q F this_far_49 this_kept_4) 167 [(0, .ref (q 35)), (2, .int (jz v2_127)), (3, .int (jz v3_137))] [.int (jz s1_167), .int (jz v1_137)]) h (fun s1_167 h => ?_) (fun k167 hk167 h => ?_)
          · refine r_iadd C (pc := 167) dX9_shortens_167 ?_
            refine r_let h (fun x168 h => ?_)
            refine r_istore_n C (pc := 168) dX9_shortens_168 rfl (by decide) (L' := [(0, .ref (q 35)), (1, .int (jz x168)), (2, .int (jz v2_127)), (3, .int (jz v3_137))]) rfl ?_
            refine r_iinc C (pc := 169) dX9_shortens_169 3 rfl (by decide) (L' := [(0, .ref (q 35)), (1, .int (jz x168)), (2, .int (jz v2_127)), (3, .int (jz (v3_137 + 1)))]) rfl ?_
            refine r_goto C (pc := 172) 137 dX9_shortens_172 rfl ?_
            exact hn137 x168 (v3_137 + 1) h
          · refine r_icmp_eq C (pc := 159) 166 dX9_shortens_159 rfl h (fun c159 h => ?_) (fun c159 h => ?_)
            · refine r_iconst C (pc := 166) dX9_shortens_166 ?_
              refine r_sub [0, 2, 3] rfl ?_
              exact hk167 0 h
            · refine r_iconst C (pc := 162) dX9_shortens_162 ?_
              refine r_goto C (pc := 163) 167 dX9_shortens_163 rfl ?_
              refine r_sub [0, 2, 3] rfl ?_
              exact hk167 1 h
    · refine r_iconst C (pc := 57) dX9_shortens_57 ?_
      refine r_istore_n C (pc := 58) dX9_shortens_58 rfl (by decide) (L' := [(0, .ref (q 35)), (1, .int (jz 0)), (2, .int (jz v2_49)), (3, .int (jz 0))]) rfl ?_
      refine lq2_e (fun (v3_59 : Int) (this_far_59 : Nat → Int) => WW g 0 0 (w_X9_shortens (xG g) q F this_far_59 this_kept_4) 59 [(0, .ref (q 35)), (1, .int (jz 0)), (2, .int (jz v2_49)), (3, .int (jz v3_59))] []) h (fun n59 hn59 v3_59 this_far_59 h => ?_)
      refine r_iload_n C (pc := 59) dX9_shortens_59 rfl 3 rfl ?_
      refine r_aload_n C (pc := 60) dX9_shortens_60 rfl 0 rfl ?_
      refine r_get C (pc := 61) dX9_shortens_61 gf_X9_shortens_9 0 rfl rfl ?_
      refine r_icmp_ge C (pc := 64) 119 dX9_shortens_64 rfl h (fun c64 h => ?_) (fun c64 h => ?_)
      · refine r_iinc C (pc := 119) dX9_shortens_119 2 rfl (by decide) (L' := [(0, .ref (q 35)), (1, .int (jz 0)), (2, .int (jz (v2_49 + 1))), (3, .int (jz v3_59))]) rfl ?_
        refine r_goto C (pc := 122) 49 dX9_shortens_122 rfl ?_
        refine r_sub [0, 1, 2] rfl ?_
        exact hn49 (v2_49 + 1) this_far_59 h
      · refine r_iconst C (pc := 67) dX9_shortens_67 ?_
        refine r_istore C (pc := 68) dX9_shortens_68 (by decide) (L' := [(0, .ref (q 35)), (1, .int (jz 0)), (2, .int (jz v2_49)), (3, .int (jz v3_59)), (4, .int (jz 0))]) rfl ?_
        refine lq2_e (fun (v4_70 : Int) (this_far_70 : Nat → Int) => WW g 0 0 (w_X9_shortens (xG g) q F this_far_70 this_kept_4) 70 [(0, .ref (q 35)), (1, .int (jz 0)), (2, .int (jz v2_49)), (3, .int (jz v3_59)), (4, .int (jz v4_70))] []) h (fun n70 hn70 v4_70 this_far_70 h => ?_)
        refine r_iload C (pc := 70) dX9_shortens_70 4 rfl ?_
        refine r_iload_n C (pc := 72) dX9_shortens_72 rfl 3 rfl ?_
        refine r_icmp_ge C (pc := 73) 113 dX9_shortens_73 rfl h (fun c73 h => ?_) (fun c73 h => ?_)
        · refine r_iinc C (pc := 113) dX9_shortens_113 3 rfl (by decide) (L' := [(0, .ref (q 35)), (1, .int (jz 0)), (2, .int (jz v2_49)), (3, .int (jz (v3_59 + 1))), (4, .int (jz v4_70))]) rfl ?_
          refine r_goto C (pc := 116) 59 dX9_shortens_116 rfl ?_
          refine r_sub [0, 1, 2, 3] rfl ?_
          exact hn59 (v3_59 + 1) this_far_70 h
        · refine r_aload_n C (pc := 76) dX9_shortens_76 rfl 0 rfl ?_
          refine r_iload_n C (pc := 77) dX9_shortens_77 rfl 3 rfl ?_
          refine r_iload C (pc := 78) dX9_shortens_78 4 rfl ?_
          refine r_aload_n C (pc := 80) dX9_shortens_80 rfl 0 rfl ?_
          refine r_iload_n C (pc := 81) dX9_shortens_81 rfl 3 rfl ?_
          refine r_iload C (pc := 82) dX9_shortens_82 4 rfl ?_
          obtain ⟨r84, e84, h⟩ := wp_b1 h
          refine b_cVi C (pc := 84) dX9_shortens_84 (c_X9_d (xl g) (xG g) q F this_far_70 v3_59 v4_70 r84 e84) rfl gX9_shortens_X9_d ⟨rfl, rfl⟩ 2 hd_X9_d ⟨Nat.le_of_ble_eq_true rfl, Nat.le_of_ble_eq_true rfl⟩ rfl 0 rfl rfl rfl [0, 1] rfl (srt_nd 0 rfl) (ws' := w_X9_shortens (xG g) q F this_far_70 this_kept_4) (Put.m rfl rfl rfl) rfl (rest := [.int (jz v4_70), .int (jz v3_59), .ref (q 35)]) rfl (Nat.le_of_ble_eq_true rfl) ⟨Nat.zero_le _, Nat.zero_le _⟩ ?_
          refine r_aload_n C (pc := 87) dX9_shortens_87 rfl 0 rfl ?_
          refine r_iload_n C (pc := 88) dX9_shortens_88 rfl 3 rfl ?_
          refine r_iload_n C (pc := 89) dX9_shortens_89 rfl 2 rfl ?_
          obtain ⟨r90, e90, h⟩ := wp_b1 h
          refine b_cVi C (pc := 90) dX9_shortens_90 (c_X9_d (xl g) (xG g) q F this_far_70 v3_59 v2_49 r90 e90) rfl gX9_shortens_X9_d ⟨rfl, rfl⟩ 2 hd_X9_d ⟨Nat.le_of_ble_eq_true rfl, Nat.le_of_ble_eq_true rfl⟩ rfl 0 rfl rfl rfl [0, 1] rfl (srt_nd 0 rfl) (ws' := w_X9_shortens (xG g) q F this_far_70 this_kept_4) (Put.m rfl rfl rfl) rfl (rest := [.int (jz r84), .int (jz v4_70), .int (jz v3_59), .ref (q 35)]) rfl (Nat.le_of_ble_eq_true rfl) ⟨Nat.zero_le _, Nat.zero_le _⟩ ?_
          refine r_aload_n C (pc := 93) dX9_shortens_93 rfl 0 rfl ?_
          refine r_iload_n C (pc := 94) dX9_shortens_94 rfl 2 rfl ?_
          refine r_iload C (pc := 95) dX9_shortens_95 4 rfl ?_
          obtain ⟨r97, e97, h⟩ := wp_b1 h
          refine b_cVi C (pc := 97) dX9_shortens_97 (c_X9_d (xl g) (xG g) q F this_far_70 v2_49 v4_70 r97 e97) rfl gX9_shortens_X9_d ⟨rfl, rfl⟩ 2 hd_X9_d ⟨Nat.le_of_ble_eq_true rfl, Nat.le_of_ble_eq_true rfl⟩ rfl 0 rfl rfl rfl [0, 1] rfl (srt_nd 0 rfl) (ws' := w_X9_shortens (xG g) q F this_far_70 this_kept_4) (Put.m rfl rfl rfl) rfl (rest := [.int (jz r90), .int (jz r84), .int (jz v4_70), .int (jz v3_59), .ref (q 35)]) rfl (Nat.le_of_ble_eq_true rfl) ⟨Nat.zero_le _, Nat.zero_le _⟩ ?_
          refine r_iadd C (pc := 100) dX9_shortens_100 ?_
          refine r_mmin C (pc := 101) dX9_shortens_101 mm_X9_shortens_3 mm_X9_shortens_4 mm_X9_shortens_5 mm_X9_shortens_6 (Nat.le_of_ble_eq_true rfl) (Nat.le_of_ble_eq_true rfl) ⟨Nat.zero_le _, Nat.zero_le _⟩ ?_
          obtain ⟨this_far_104, e104, h⟩ := wp_b1 h
          refine b_cVv C (pc := 104) dX9_shortens_104 (c_X9_lays (xl g) (xG g) q F this_far_70 v3_59 v4_70 (minI r84 (r90 + r97)) this_far_104 e104) rfl gX9_shortens_X9_lays ⟨rfl, rfl⟩ 3 hd_X9_lays ⟨Nat.le_of_ble_eq_true rfl, Nat.le_of_ble_eq_true rfl⟩ rfl 0 rfl rfl rfl [0, 1] rfl (srt_nd 0 rfl) (ws' := w_X9_shortens (xG g) q F this_far_104 this_kept_4) (Put.m rfl rfl rfl) rfl (rest := []) rfl (Nat.le_of_ble_eq_true rfl) ⟨Nat.zero_le _, Nat.zero_le _⟩ ?_
          refine r_iinc C (pc := 107) dX9_shortens_107 4 rfl (by decide) (L' := [(0, .ref (q 35)), (1, .int (jz 0)), (2, .int (jz v2_49)), (3, .int (jz v3_59)), (4, .int (jz (v4_70 + 1)))]) rfl ?_
          refine r_goto C (pc := 110) 70 dX9_shortens_110 rfl ?_
          exact hn70 (v4_70 + 1) this_far_104 h
  · refine r_iconst C (pc := 12) dX9_shortens_12 ?_
    refine r_istore_n C (pc := 13) dX9_shortens_13 rfl (by decide) (L' := [(0, .ref (q 35)), (1, .int (jz 0)), (2, .int (jz v2_4)), (3, .int (jz 0))]) rfl ?_
    refine lq2_e (fun (v3_14 : Int) (this_kept_14 : Nat → Int) => WW g 0 0 (w_X9_shortens (xG g) q F c_this_far this_kept_14) 14 [(0, .ref (q 35)), (1, .int (jz 0)), (2, .int (jz v2_4)), (3, .int (jz v3_14))] []) h (fun n14 hn14 v3_14 this_kept_14 h => ?_)
    refine r_iload_n C (pc := 14) dX9_shortens_14 rfl 3 rfl ?_
    refine r_iload_n C (pc := 15) dX9_shortens_15 rfl 2 rfl ?_
    refine r_icmp_ge C (pc := 16) 41 dX9_shortens_16 rfl h (fun c16 h => ?_) (fun c16 h => ?_)
    · refine r_iinc C (pc := 41) dX9_shortens_41 2 rfl (by decide) (L' := [(0, .ref (q 35)), (1, .int (jz 0)), (2, .int (jz (v2_4 + 1))), (3, .int (jz v3_14))]) rfl ?_
      refine r_goto C (pc := 44) 4 dX9_shortens_44 rfl ?_
      refine r_sub [0, 1, 2] rfl ?_
      exact hn4 (v2_4 + 1) this_kept_14 h
    · refine r_aload_n C (pc := 19) dX9_shortens_19 rfl 0 rfl ?_
      refine r_get C (pc := 20) dX9_shortens_20 gf_X9_shortens_62 0 rfl rfl ?_
      refine r_iconst C (pc := 23) dX9_shortens_23 ?_
      refine r_iload_n C (pc := 24) dX9_shortens_24 rfl 2 rfl ?_
      refine r_imul C (pc := 25) dX9_shortens_25 ?_
      refine r_iload_n C (pc := 26) dX9_shortens_26 rfl 3 rfl ?_
      refine r_iadd C (pc := 27) dX9_shortens_27 ?_
      refine r_aload_n C (pc := 28) dX9_shortens_28 rfl 0 rfl ?_
      refine r_iload_n C (pc := 29) dX9_shortens_29 rfl 2 rfl ?_
      refine r_iload_n C (pc := 30) dX9_shortens_30 rfl 3 rfl ?_
      obtain ⟨r31, e31, h⟩ := wp_b1 h
      refine b_cVi C (pc := 31) dX9_shortens_31 (c_X9_d (xl g) (xG g) q F c_this_far v2_4 v3_14 r31 e31) rfl gX9_shortens_X9_d ⟨rfl, rfl⟩ 2 hd_X9_d ⟨Nat.le_of_ble_eq_true rfl, Nat.le_of_ble_eq_true rfl⟩ rfl 0 rfl rfl rfl [0, 1] rfl (srt_nd 0 rfl) (ws' := w_X9_shortens (xG g) q F c_this_far this_kept_14) (Put.m rfl rfl rfl) rfl (rest := [.int (jz ((5 * v2_4) + v3_14)), .ref (q 20)]) rfl (Nat.le_of_ble_eq_true rfl) ⟨Nat.zero_le _, Nat.zero_le _⟩ ?_
      refine r_iast C (pc := 34) dX9_shortens_34 h 2 rfl (ws' := w_X9_shortens (xG g) q F c_this_far (up this_kept_14 (ix ((5 * v2_4) + v3_14)) r31)) rfl (fun h => ?_)
      refine r_iinc C (pc := 35) dX9_shortens_35 3 rfl (by decide) (L' := [(0, .ref (q 35)), (1, .int (jz 0)), (2, .int (jz v2_4)), (3, .int (jz (v3_14 + 1)))]) rfl ?_
      refine r_goto C (pc := 38) 14 dX9_shortens_38 rfl ?_
      exact hn14 (v3_14 + 1) (up this_kept_14 (ix ((5 * v2_4) + v3_14)) r31) h
theorem c_X9_shortens (l : Launch) (G : gG) (q : Nat → Nat) (F : Nat → Int) (c_this_far : Nat → Int) (c_this_kept : Nat → Int) (r : Int) (o0 : Nat → Int) (o1 : Nat → Int) (hf : f_X9_shortens (F 0) c_this_far c_this_kept = some (r, o0, o1)) : CTi l yX9_shortens wsX9_shortens rm_X9_shortens G (w_X9_shortens G q F c_this_far c_this_kept) [.ref (q 35)] (jz r) (w_X9_shortens G q F o0 o1) := CTi_of (by decide) rfl rfl (Nat.le_of_ble_eq_true rfl) (fun g C hG hl hF => by
    subst hG
    subst hl
    exact k_X9_shortens C q F c_this_far c_this_kept (fun x => x = (r, o0, o1)) (fun r' o0' o1' e => by cases e; exact hF) ⟨_, hf, rfl⟩)

-- TightHullsModel.laysAside()V
def f_X9_laysAside (c_this_far : Nat → Int) (c_this_aside : Nat → Int) : Option (Nat → Int) := lq2 (fun (n2 : Int → (Nat → Int) → Option (Nat → Int)) (v1_2 : Int) (this_aside_2 : Nat → Int) => if ltI v1_2 25 = true then (grd (iin v1_2 25) (lv ((c_this_far (ix v1_2))) (fun x19 => grd (iin v1_2 25) (n2 (v1_2 + 1) (up this_aside_2 (ix v1_2) x19))))) else (some this_aside_2)) 300 0 c_this_aside
abbrev rm_X9_laysAside : Room := { frames := 0, cells := 0, slots := 0, locals := 0 }
abbrev w_X9_laysAside (G : gG) (q : Nat → Nat) (F : Nat → Int) (c_this_far : Nat → Int) (c_this_aside : Nat → Int) : va_W := [((q 35), oX9 F q), ((q 1), aI G 25 c_this_far), ((q 21), aI G 25 c_this_aside)]
theorem hd_X9_laysAside : yX9_laysAside.cls = RX9 ∧ yX9_laysAside.cls ≠ "java/lang/invoke/MethodHandle" ∧ yX9_laysAside.cls ≠ "java/lang/invoke/VarHandle" ∧ (parseMethodDescriptor yX9_laysAside.desc).map (fun d => d.parameters.length) = some 0 := by decide +kernel
theorem in_X9_laysAside_X9 : ∀ w ∈ u_ws RX9 TX9 35, w ∈ wsX9_laysAside := fun w h => List.mem_cons_of_mem _ (List.mem_append_right _ (h))
theorem gf_X9_laysAside_65 : GF wsX9_laysAside RX9 65 8 21 := ⟨RX9, TX9, 35, rfl, in_X9_laysAside_X9, by decide, List.mem_of_getElem? (i := 1) rfl⟩
theorem gf_X9_laysAside_15 : GF wsX9_laysAside RX9 15 8 1 := ⟨RX9, TX9, 35, rfl, in_X9_laysAside_X9, by decide, List.mem_of_getElem? (i := 2) rfl⟩
set_option maxRecDepth 100000 in
set_option maxHeartbeats 4000000 in
theorem k_X9_laysAside {g : XC} (C : XOk g cX9_laysAside RX9 wsX9_laysAside rm_X9_laysAside 2) (q : Nat → Nat) (F : Nat → Int) (c_this_far : Nat → Int) (c_this_aside : Nat → Int)  (K : (Nat → Int) → Prop) (hK : ∀ (o0 : Nat → Int), K o0 → FinV g 0 0 (w_X9_laysAside (xG g) q F c_this_far o0)) (h : wp (f_X9_laysAside c_this_far c_this_aside) K) : WW g 0 0 (w_X9_laysAside (xG g) q F c_this_far c_this_aside) 0 [(0, .ref (q 35))] [] := by
  unfold f_X9_laysAside at h
  refine r_iconst C (pc := 0) dX9_laysAside_0 ?_
  refine r_istore_n C (pc := 1) dX9_laysAside_1 rfl (by decide) (L' := [(0, .ref (q 35)), (1, .int (jz 0))]) rfl ?_
  refine lq2_e (fun (v1_2 : Int) (this_aside_2 : Nat → Int) => WW g 0 0 (w_X9_laysAside (xG g) q F c_this_far this_aside_2) 2 [(0, .ref (q 35)), (1, .int (jz v1_2))] []) h (fun n2 hn2 v1_2 this_aside_2 h => ?_)
  refine r_iload_n C (pc := 2) dX9_laysAside_2 rfl 1 rfl ?_
  refine r_bipush C (pc := 3) dX9_laysAside_3 rfl ?_
  refine r_icmp_ge C (pc := 5) 26 dX9_laysAside_5 rfl h (fun c5 h => ?_) (fun c5 h => ?_)
  · exact r_vret C (pc := 26) dX9_laysAside_26 (hK this_aside_2 (wp_s h))
  · refine r_aload_n C (pc := 8) dX9_laysAside_8 rfl 0 rfl ?_
    refine r_get C (pc := 9) dX9_laysAside_9 gf_X9_laysAside_65 0 rfl rfl ?_
    refine r_iload_n C (pc := 12) dX9_laysAside_12 rfl 1 rfl ?_
    refine r_aload_n C (pc := 13) dX9_laysAside_13 rfl 0 rfl ?_
    refine r_get C (pc := 14) dX9_laysAside_14 gf_X9_laysAside_15 0 rfl rfl ?_
    refine r_iload_n C (pc := 17) dX9_laysAside_17 rfl 1 rfl ?_
    refine r_iald C (pc := 18) dX9_laysAside_18 h 1 rfl (fun h => ?_)
    refine r_let h (fun x19 h => ?_)
    refine r_iast C (pc := 19) dX9_laysAside_19 h 2 rfl (ws' := w_X9_laysAside (xG g) q F c_this_far (up this_aside_2 (ix v1_2) x19)) rfl (fun h => ?_)
    refine r_iinc C (pc := 20) dX9_laysAside_20 1 rfl (by decide) (L' := [(0, .ref (q 35)), (1, .int (jz (v1_2 + 1)))]) rfl ?_
    refine r_goto C (pc := 23) 2 dX9_laysAside_23 rfl ?_
    exact hn2 (v1_2 + 1) (up this_aside_2 (ix v1_2) x19) h
theorem c_X9_laysAside (l : Launch) (G : gG) (q : Nat → Nat) (F : Nat → Int) (c_this_far : Nat → Int) (c_this_aside : Nat → Int) (o0 : Nat → Int) (hf : f_X9_laysAside c_this_far c_this_aside = some o0) : CTv l yX9_laysAside wsX9_laysAside rm_X9_laysAside G (w_X9_laysAside G q F c_this_far c_this_aside) [.ref (q 35)] (w_X9_laysAside G q F c_this_far o0) := CTv_of (by decide) rfl rfl (Nat.le_of_ble_eq_true rfl) (fun g C hG hl hF => by
    subst hG
    subst hl
    exact k_X9_laysAside C q F c_this_far c_this_aside (fun x => x = o0) (fun o0' e => by cases e; exact hF) ⟨_, hf, rfl⟩)

-- TightHullsModel.laysBack()V
def f_X9_laysBack (c_this_far : Nat → Int) (c_this_aside : Nat → Int) : Option (Nat → Int) := lq2 (fun (n2 : Int → (Nat → Int) → Option (Nat → Int)) (v1_2 : Int) (this_far_2 : Nat → Int) => if ltI v1_2 25 = true then (grd (iin v1_2 25) (lv ((c_this_aside (ix v1_2))) (fun x19 => grd (iin v1_2 25) (n2 (v1_2 + 1) (up this_far_2 (ix v1_2) x19))))) else (some this_far_2)) 300 0 c_this_far
abbrev rm_X9_laysBack : Room := { frames := 0, cells := 0, slots := 0, locals := 0 }
abbrev w_X9_laysBack (G : gG) (q : Nat → Nat) (F : Nat → Int) (c_this_far : Nat → Int) (c_this_aside : Nat → Int) : va_W := [((q 35), oX9 F q), ((q 1), aI G 25 c_this_far), ((q 21), aI G 25 c_this_aside)]
theorem hd_X9_laysBack : yX9_laysBack.cls = RX9 ∧ yX9_laysBack.cls ≠ "java/lang/invoke/MethodHandle" ∧ yX9_laysBack.cls ≠ "java/lang/invoke/VarHandle" ∧ (parseMethodDescriptor yX9_laysBack.desc).map (fun d => d.parameters.length) = some 0 := by decide +kernel
theorem in_X9_laysBack_X9 : ∀ w ∈ u_ws RX9 TX9 35, w ∈ wsX9_laysBack := fun w h => List.mem_cons_of_mem _ (List.mem_append_right _ (h))
theorem gf_X9_laysBack_15 : GF wsX9_laysBack RX9 15 8 1 := ⟨RX9, TX9, 35, rfl, in_X9_laysBack_X9, by decide, List.mem_of_getElem? (i := 1) rfl⟩
theorem gf_X9_laysBack_65 : GF wsX9_laysBack RX9 65 8 21 := ⟨RX9, TX9, 35, rfl, in_X9_laysBack_X9, by decide, List.mem_of_getElem? (i := 2) rfl⟩
set_option maxRecDepth 100000 in
set_option maxHeartbeats 4000000 in
theorem k_X9_laysBack {g : XC} (C : XOk g cX9_laysBack RX9 wsX9_laysBack rm_X9_laysBack 2) (q : Nat → Nat) (F : Nat → Int) (c_this_far : Nat → Int) (c_this_aside : Nat → Int)  (K : (Nat → Int) → Prop) (hK : ∀ (o0 : Nat → Int), K o0 → FinV g 0 0 (w_X9_laysBack (xG g) q F o0 c_this_aside)) (h : wp (f_X9_laysBack c_this_far c_this_aside) K) : WW g 0 0 (w_X9_laysBack (xG g) q F c_this_far c_this_aside) 0 [(0, .ref (q 35))] [] := by
  unfold f_X9_laysBack at h
  refine r_iconst C (pc := 0) dX9_laysBack_0 ?_
  refine r_istore_n C (pc := 1) dX9_laysBack_1 rfl (by decide) (L' := [(0, .ref (q 35)), (1, .int (jz 0))]) rfl ?_
  refine lq2_e (fun (v1_2 : Int) (this_far_2 : Nat → Int) => WW g 0 0 (w_X9_laysBack (xG g) q F this_far_2 c_this_aside) 2 [(0, .ref (q 35)), (1, .int (jz v1_2))] []) h (fun n2 hn2 v1_2 this_far_2 h => ?_)
  refine r_iload_n C (pc := 2) dX9_laysBack_2 rfl 1 rfl ?_
  refine r_bipush C (pc := 3) dX9_laysBack_3 rfl ?_
  refine r_icmp_ge C (pc := 5) 26 dX9_laysBack_5 rfl h (fun c5 h => ?_) (fun c5 h => ?_)
  · exact r_vret C (pc := 26) dX9_laysBack_26 (hK this_far_2 (wp_s h))
  · refine r_aload_n C (pc := 8) dX9_laysBack_8 rfl 0 rfl ?_
    refine r_get C (pc := 9) dX9_laysBack_9 gf_X9_laysBack_15 0 rfl rfl ?_
    refine r_iload_n C (pc := 12) dX9_laysBack_12 rfl 1 rfl ?_
    refine r_aload_n C (pc := 13) dX9_laysBack_13 rfl 0 rfl ?_
    refine r_get C (pc := 14) dX9_laysBack_14 gf_X9_laysBack_65 0 rfl rfl ?_
    refine r_iload_n C (pc := 17) dX9_laysBack_17 rfl 1 rfl ?_
    refine r_iald C (pc := 18) dX9_laysBack_18 h 2 rfl (fun h => ?_)
    refine r_let h (fun x19 h => ?_)
    refine r_iast C (pc := 19) dX9_laysBack_19 h 1 rfl (ws' := w_X9_laysBack (xG g) q F (up this_far_2 (ix v1_2) x19) c_this_aside) rfl (fun h => ?_)
    refine r_iinc C (pc := 20) dX9_laysBack_20 1 rfl (by decide) (L' := [(0, .ref (q 35)), (1, .int (jz (v1_2 + 1)))]) rfl ?_
    refine r_goto C (pc := 23) 2 dX9_laysBack_23 rfl ?_
    exact hn2 (v1_2 + 1) (up this_far_2 (ix v1_2) x19) h
theorem c_X9_laysBack (l : Launch) (G : gG) (q : Nat → Nat) (F : Nat → Int) (c_this_far : Nat → Int) (c_this_aside : Nat → Int) (o0 : Nat → Int) (hf : f_X9_laysBack c_this_far c_this_aside = some o0) : CTv l yX9_laysBack wsX9_laysBack rm_X9_laysBack G (w_X9_laysBack G q F c_this_far c_this_aside) [.ref (q 35)] (w_X9_laysBack G q F o0 c_this_aside) := CTv_of (by decide) rfl rfl (Nat.le_of_ble_eq_true rfl) (fun g C hG hl hF => by
    subst hG
    subst hl
    exact k_X9_laysBack C q F c_this_far c_this_aside (fun x => x = o0) (fun o0' e => by cases e; exact hF) ⟨_, hf, rfl⟩)

-- TightHullsModel.shorten()I
def f_X9_shorten (m_points : Int) (c_this_far : Nat → Int) (c_this_kept : Nat → Int) : Option (Int × (Nat → Int) × (Nat → Int)) := bd3 (f_X9_shortens m_points c_this_far c_this_kept) (fun r1 this_far_1 this_kept_1 => some (r1, this_far_1, this_kept_1))
abbrev rm_X9_shorten : Room := { frames := 2, cells := 0, slots := 0, locals := 84 }
abbrev w_X9_shorten (G : gG) (q : Nat → Nat) (F : Nat → Int) (c_this_far : Nat → Int) (c_this_kept : Nat → Int) : va_W := [((q 35), oX9 F q), ((q 1), aI G 25 c_this_far), ((q 20), aI G 25 c_this_kept)]
theorem hd_X9_shorten : yX9_shorten.cls = RX9 ∧ yX9_shorten.cls ≠ "java/lang/invoke/MethodHandle" ∧ yX9_shorten.cls ≠ "java/lang/invoke/VarHandle" ∧ (parseMethodDescriptor yX9_shorten.desc).map (fun d => d.parameters.length) = some 0 := by decide +kernel
set_option maxRecDepth 100000 in
set_option maxHeartbeats 4000000 in
theorem k_X9_shorten {g : XC} (C : XOk g cX9_shorten RX9 wsX9_shorten rm_X9_shorten 1) (q : Nat → Nat) (F : Nat → Int) (c_this_far : Nat → Int) (c_this_kept : Nat → Int)  (K : (Int × (Nat → Int) × (Nat → Int)) → Prop) (hK : ∀ (r : Int) (o0 : Nat → Int) (o1 : Nat → Int), K (r, o0, o1) → (narrow .int (.int (jz r)) = .int (jz r) → FinI g 0 0 (w_X9_shorten (xG g) q F o0 o1) (jz r))) (h : wp (f_X9_shorten (F 0) c_this_far c_this_kept) K) : WW g 0 0 (w_X9_shorten (xG g) q F c_this_far c_this_kept) 0 [(0, .ref (q 35))] [] := by
  unfold f_X9_shorten at h
  refine r_aload_n C (pc := 0) dX9_shorten_0 rfl 0 rfl ?_
  obtain ⟨r1, this_far_1, this_kept_1, e1, h⟩ := wp_b3 h
  refine b_cVi C (pc := 1) dX9_shorten_1 (c_X9_shortens (xl g) (xG g) q F c_this_far c_this_kept r1 this_far_1 this_kept_1 e1) rfl gX9_shorten_X9_shortens ⟨rfl, rfl⟩ 0 hd_X9_shortens ⟨Nat.le_of_ble_eq_true rfl, Nat.le_of_ble_eq_true rfl⟩ rfl 0 rfl rfl rfl [0, 1, 2] rfl (srt_nd 0 rfl) (ws' := w_X9_shorten (xG g) q F this_far_1 this_kept_1) (Put.m rfl rfl rfl) rfl (rest := []) rfl (Nat.le_of_ble_eq_true rfl) ⟨Nat.zero_le _, Nat.zero_le _⟩ ?_
  exact r_iret C (pc := 4) dX9_shorten_4 (hK r1 this_far_1 this_kept_1 (wp_s h) rfl)
theorem c_X9_shorten (l : Launch) (G : gG) (q : Nat → Nat) (F : Nat → Int) (c_this_far : Nat → Int) (c_this_kept : Nat → Int) (r : Int) (o0 : Nat → Int) (o1 : Nat → Int) (hf : f_X9_shorten (F 0) c_this_far c_this_kept = some (r, o0, o1)) : CTi l yX9_shorten wsX9_shorten rm_X9_shorten G (w_X9_shorten G q F c_this_far c_this_kept) [.ref (q 35)] (jz r) (w_X9_shorten G q F o0 o1) := CTi_of (by decide) rfl rfl (Nat.le_of_ble_eq_true rfl) (fun g C hG hl hF => by
    subst hG
    subst hl
    exact k_X9_shorten C q F c_this_far c_this_kept (fun x => x = (r, o0, o1)) (fun r' o0' o1' e => by cases e; exact hF) ⟨_, hf, rfl⟩)

-- TightHullsModel.function(II)I
def f_X9_function (p1 : Int) (p2 : Int) (m_points : Int) (c_this_number : Nat → Int) : Option (Int × (Nat → Int)) := bd1 (f_X9_isPoint p1 m_points) (fun r2 => if eqI r2 0 = true then (some ((-1), c_this_number)) else (bd1 (f_X9_in p2 0 160) (fun r15 => if eqI r15 0 = true then (some ((-2), c_this_number)) else (grd (iin p1 5) (lv ((c_this_number (ix p1))) (fun x30 => grd (iin p1 5) (some (x30, (up c_this_number (ix p1) p2)))))))))
abbrev rm_X9_function : Room := { frames := 2, cells := 0, slots := 0, locals := 43 }
abbrev w_X9_function (G : gG) (q : Nat → Nat) (F : Nat → Int) (c_this_number : Nat → Int) : va_W := [((q 35), oX9 F q), ((q 2), aI G 5 c_this_number)]
theorem hd_X9_function : yX9_function.cls = RX9 ∧ yX9_function.cls ≠ "java/lang/invoke/MethodHandle" ∧ yX9_function.cls ≠ "java/lang/invoke/VarHandle" ∧ (parseMethodDescriptor yX9_function.desc).map (fun d => d.parameters.length) = some 2 := by decide +kernel
theorem in_X9_function_X9 : ∀ w ∈ u_ws RX9 TX9 35, w ∈ wsX9_function := fun w h => List.mem_cons_of_mem _ (List.mem_append_right _ (h))
theorem gf_X9_function_19 : GF wsX9_function RX9 19 8 2 := ⟨RX9, TX9, 35, rfl, in_X9_function_X9, by decide, List.mem_of_getElem? (i := 1) rfl⟩
set_option maxRecDepth 100000 in
set_option maxHeartbeats 4000000 in
theorem k_X9_function {g : XC} (C : XOk g cX9_function RX9 wsX9_function rm_X9_function 4) (q : Nat → Nat) (F : Nat → Int) (c_this_number : Nat → Int) (p1 : Int) (p2 : Int) (K : (Int × (Nat → Int)) → Prop) (hK : ∀ (r : Int) (o0 : Nat → Int), K (r, o0) → (narrow .int (.int (jz r)) = .int (jz r) → FinI g 0 0 (w_X9_function (xG g) q F o0) (jz r))) (h : wp (f_X9_function p1 p2 (F 0) c_this_number) K) : WW g 0 0 (w_X9_function (xG g) q F c_this_number) 0 [(0, .ref (q 35)), (1, .int (jz p1)), (2, .int (jz p2))] [] := by
  unfold f_X9_function at h
  refine r_aload_n C (pc := 0) dX9_function_0 rfl 0 rfl ?_
  refine r_iload_n C (pc := 1) dX9_function_1 rfl 1 rfl ?_
  obtain ⟨r2, e2, h⟩ := wp_b1 h
  refine b_cVi C (pc := 2) dX9_function_2 (c_X9_isPoint (xl g) (xG g) q F p1 r2 e2) rfl gX9_function_X9_isPoint ⟨rfl, rfl⟩ 1 hd_X9_isPoint ⟨Nat.le_of_ble_eq_true rfl, Nat.le_of_ble_eq_true rfl⟩ rfl 0 rfl rfl rfl [0] rfl (srt_nd 0 rfl) (ws' := w_X9_function (xG g) q F c_this_number) (Put.m rfl rfl rfl) rfl (rest := []) rfl (Nat.le_of_ble_eq_true rfl) ⟨Nat.zero_le _, Nat.zero_le _⟩ ?_
  refine r_if_ne C (pc := 5) 10 dX9_function_5 rfl h (fun c5 h => ?_) (fun c5 h => ?_)
  · refine r_iload_n C (pc := 10) dX9_function_10 rfl 2 rfl ?_
    refine r_iconst C (pc := 11) dX9_function_11 ?_
    refine r_sipush C (pc := 12) dX9_function_12 rfl ?_
    obtain ⟨r15, e15, h⟩ := wp_b1 h
    refine b_cSi C (pc := 15) dX9_function_15 (c_X9_in (xl g) (xG g) p2 0 160 r15 e15) rfl gX9_function_X9_in ⟨rfl, rfl⟩ 3 hd_X9_in ⟨Nat.le_of_ble_eq_true rfl, Nat.le_of_ble_eq_true rfl⟩ rfl [] rfl (srt_nd 0 rfl) (ws' := w_X9_function (xG g) q F c_this_number) (Put.m rfl rfl rfl) rfl (rest := []) rfl (Nat.le_of_ble_eq_true rfl) ⟨Nat.zero_le _, Nat.zero_le _⟩ ?_
    refine r_if_ne C (pc := 18) 24 dX9_function_18 rfl h (fun c18 h => ?_) (fun c18 h => ?_)
    · refine r_aload_n C (pc := 24) dX9_function_24 rfl 0 rfl ?_
      refine r_get C (pc := 25) dX9_function_25 gf_X9_function_19 0 rfl rfl ?_
      refine r_iload_n C (pc := 28) dX9_function_28 rfl 1 rfl ?_
      refine r_iald C (pc := 29) dX9_function_29 h 1 rfl (fun h => ?_)
      refine r_let h (fun x30 h => ?_)
      refine r_istore_n C (pc := 30) dX9_function_30 rfl (by decide) (L' := [(0, .ref (q 35)), (1, .int (jz p1)), (2, .int (jz p2)), (3, .int (jz x30))]) rfl ?_
      refine r_aload_n C (pc := 31) dX9_function_31 rfl 0 rfl ?_
      refine r_get C (pc := 32) dX9_function_32 gf_X9_function_19 0 rfl rfl ?_
      refine r_iload_n C (pc := 35) dX9_function_35 rfl 1 rfl ?_
      refine r_iload_n C (pc := 36) dX9_function_36 rfl 2 rfl ?_
      refine r_iast C (pc := 37) dX9_function_37 h 1 rfl (ws' := w_X9_function (xG g) q F (up c_this_number (ix p1) p2)) rfl (fun h => ?_)
      refine r_iload_n C (pc := 38) dX9_function_38 rfl 3 rfl ?_
      exact r_iret C (pc := 39) dX9_function_39 (hK x30 (up c_this_number (ix p1) p2) (wp_s h) rfl)
    · refine r_bipush C (pc := 21) dX9_function_21 rfl ?_
      exact r_iret C (pc := 23) dX9_function_23 (hK (-2) c_this_number (wp_s h) rfl)
  · refine r_iconst C (pc := 8) dX9_function_8 ?_
    exact r_iret C (pc := 9) dX9_function_9 (hK (-1) c_this_number (wp_s h) rfl)
theorem c_X9_function (l : Launch) (G : gG) (q : Nat → Nat) (F : Nat → Int) (c_this_number : Nat → Int) (p1 : Int) (p2 : Int) (r : Int) (o0 : Nat → Int) (hf : f_X9_function p1 p2 (F 0) c_this_number = some (r, o0)) : CTi l yX9_function wsX9_function rm_X9_function G (w_X9_function G q F c_this_number) [.ref (q 35), .int (jz p1), .int (jz p2)] (jz r) (w_X9_function G q F o0) := CTi_of (by decide) rfl rfl (Nat.le_of_ble_eq_true rfl) (fun g C hG hl hF => by
    subst hG
    subst hl
    exact k_X9_function C q F c_this_number p1 p2 (fun x => x = (r, o0)) (fun r' o0' e => by cases e; exact hF) ⟨_, hf, rfl⟩)

-- TightHullsModel.barred()I
def f_X9_barred (m_points : Int) (c_this_far : Nat → Int) : Option Int := lq1 (fun (n2 : Int → Option Int) (v1_2 : Int) => if ltI v1_2 m_points = true then (lq1 (fun (n12 : Int → Option Int) (v2_12 : Int) => if ltI v2_12 m_points = true then (lq1 (fun (n22 : Int → Option Int) (v3_22 : Int) => if ltI v3_22 m_points = true then (bd1 (f_X9_d v1_2 v3_22 c_this_far) (fun r33 => bd1 (f_X9_d v1_2 v2_12 c_this_far) (fun r39 => bd1 (f_X9_d v2_12 v3_22 c_this_far) (fun r45 => if ltI (r39 + r45) r33 = true then (some (((100 * v1_2) + (10 * v2_12)) + v3_22)) else (n22 (v3_22 + 1)))))) else (n12 (v2_12 + 1))) 300 0) else (n2 (v1_2 + 1))) 300 0) else (some (-5))) 300 0
abbrev rm_X9_barred : Room := { frames := 1, cells := 0, slots := 0, locals := 22 }
abbrev w_X9_barred (G : gG) (q : Nat → Nat) (F : Nat → Int) (c_this_far : Nat → Int) : va_W := [((q 35), oX9 F q), ((q 1), aI G 25 c_this_far)]
theorem hd_X9_barred : yX9_barred.cls = RX9 ∧ yX9_barred.cls ≠ "java/lang/invoke/MethodHandle" ∧ yX9_barred.cls ≠ "java/lang/invoke/VarHandle" ∧ (parseMethodDescriptor yX9_barred.desc).map (fun d => d.parameters.length) = some 0 := by decide +kernel
theorem in_X9_barred_X9 : ∀ w ∈ u_ws RX9 TX9 35, w ∈ wsX9_barred := fun w h => List.mem_cons_of_mem _ (List.mem_append_right _ (h))
theorem gf_X9_barred_9 : GF wsX9_barred RX9 9 8 0 := ⟨RX9, TX9, 35, rfl, in_X9_barred_X9, by decide, List.mem_of_getElem? (i := 1) rfl⟩
set_option maxRecDepth 100000 in
set_option maxHeartbeats 4000000 in
theorem k_X9_barred {g : XC} (C : XOk g cX9_barred RX9 wsX9_barred rm_X9_barred 4) (q : Nat → Nat) (F : Nat → Int) (c_this_far : Nat → Int)  (K : Int → Prop) (hK : ∀ (r : Int), K r → (narrow .int (.int (jz r)) = .int (jz r) → FinI g 0 0 (w_X9_barred (xG g) q F c_this_far) (jz r))) (h : wp (f_X9_barred (F 0) c_this_far) K) : WW g 0 0 (w_X9_barred (xG g) q F c_this_far) 0 [(0, .ref (q 35))] [] := by
  unfold f_X9_barred at h
  refine r_iconst C (pc := 0) dX9_barred_0 ?_
  refine r_istore_n C (pc := 1) dX9_barred_1 rfl (by decide) (L' := [(0, .ref (q 35)), (1, .int (jz 0))]) rfl ?_
  refine lq1_e (fun (v1_2 : Int) => WW g 0 0 (w_X9_barred (xG g) q F c_this_far) 2 [(0, .ref (q 35)), (1, .int (jz v1_2))] []) h (fun n2 hn2 v1_2 h => ?_)
  refine r_iload_n C (pc := 2) dX9_barred_2 rfl 1 rfl ?_
  refine r_aload_n C (pc := 3) dX9_barred_3 rfl 0 rfl ?_
  refine r_get C (pc := 4) dX9_barred_4 gf_X9_barred_9 0 rfl rfl ?_
  refine r_icmp_ge C (pc := 7) 82 dX9_barred_7 rfl h (fun c7 h => ?_) (fun c7 h => ?_)
  · refine r_bipush C (pc := 82) dX9_barred_82 rfl ?_
    exact r_iret C (pc := 84) dX9_barred_84 (hK (-5) (wp_s h) rfl)
  · refine r_iconst C (pc := 10) dX9_barred_10 ?_
    refine r_istore_n C (pc := 11) dX9_barred_11 rfl (by decide) (L' := [(0, .ref (q 35)), (1, .int (jz v1_2)), (2, .int (jz 0))]) rfl ?_
    refine lq1_e (fun (v2_12 : Int) => WW g 0 0 (w_X9_barred (xG g) q F c_this_far) 12 [(0, .ref (q 35)), (1, .int (jz v1_2)), (2, .int (jz v2_12))] []) h (fun n12 hn12 v2_12 h => ?_)
    refine r_iload_n C (pc := 12) dX9_barred_12 rfl 2 rfl ?_
    refine r_aload_n C (pc := 13) dX9_barred_13 rfl 0 rfl ?_
    refine r_get C (pc := 14) dX9_barred_14 gf_X9_barred_9 0 rfl rfl ?_
    refine r_icmp_ge C (pc := 17) 76 dX9_barred_17 rfl h (fun c17 h => ?_) (fun c17 h => ?_)
    · refine r_iinc C (pc := 76) dX9_barred_76 1 rfl (by decide) (L' := [(0, .ref (q 35)), (1, .int (jz (v1_2 + 1))), (2, .int (jz v2_12))]) rfl ?_
      refine r_goto C (pc := 79) 2 dX9_barred_79 rfl ?_
      refine r_sub [0, 1] rfl ?_
      exact hn2 (v1_2 + 1) h
    · refine r_iconst C (pc := 20) dX9_barred_20 ?_
      refine r_istore_n C (pc := 21) dX9_barred_21 rfl (by decide) (L' := [(0, .ref (q 35)), (1, .int (jz v1_2)), (2, .int (jz v2_12)), (3, .int (jz 0))]) rfl ?_
      refine lq1_e (fun (v3_22 : Int) => WW g 0 0 (w_X9_barred (xG g) q F c_this_far) 22 [(0, .ref (q 35)), (1, .int (jz v1_2)), (2, .int (jz v2_12)), (3, .int (jz v3_22))] []) h (fun n22 hn22 v3_22 h => ?_)
      refine r_iload_n C (pc := 22) dX9_barred_22 rfl 3 rfl ?_
      refine r_aload_n C (pc := 23) dX9_barred_23 rfl 0 rfl ?_
      refine r_get C (pc := 24) dX9_barred_24 gf_X9_barred_9 0 rfl rfl ?_
      refine r_icmp_ge C (pc := 27) 70 dX9_barred_27 rfl h (fun c27 h => ?_) (fun c27 h => ?_)
      · refine r_iinc C (pc := 70) dX9_barred_70 2 rfl (by decide) (L' := [(0, .ref (q 35)), (1, .int (jz v1_2)), (2, .int (jz (v2_12 + 1))), (3, .int (jz v3_22))]) rfl ?_
        refine r_goto C (pc := 73) 12 dX9_barred_73 rfl ?_
        refine r_sub [0, 1, 2] rfl ?_
        exact hn12 (v2_12 + 1) h
      · refine r_aload_n C (pc := 30) dX9_barred_30 rfl 0 rfl ?_
        refine r_iload_n C (pc := 31) dX9_barred_31 rfl 1 rfl ?_
        refine r_iload_n C (pc := 32) dX9_barred_32 rfl 3 rfl ?_
        obtain ⟨r33, e33, h⟩ := wp_b1 h
        refine b_cVi C (pc := 33) dX9_barred_33 (c_X9_d (xl g) (xG g) q F c_this_far v1_2 v3_22 r33 e33) rfl gX9_barred_X9_d ⟨rfl, rfl⟩ 2 hd_X9_d ⟨Nat.le_of_ble_eq_true rfl, Nat.le_of_ble_eq_true rfl⟩ rfl 0 rfl rfl rfl [0, 1] rfl (srt_nd 0 rfl) (ws' := w_X9_barred (xG g) q F c_this_far) (Put.m rfl rfl rfl) rfl (rest := []) rfl (Nat.le_of_ble_eq_true rfl) ⟨Nat.zero_le _, Nat.zero_le _⟩ ?_
        refine r_aload_n C (pc := 36) dX9_barred_36 rfl 0 rfl ?_
        refine r_iload_n C (pc := 37) dX9_barred_37 rfl 1 rfl ?_
        refine r_iload_n C (pc := 38) dX9_barred_38 rfl 2 rfl ?_
        obtain ⟨r39, e39, h⟩ := wp_b1 h
        refine b_cVi C (pc := 39) dX9_barred_39 (c_X9_d (xl g) (xG g) q F c_this_far v1_2 v2_12 r39 e39) rfl gX9_barred_X9_d ⟨rfl, rfl⟩ 2 hd_X9_d ⟨Nat.le_of_ble_eq_true rfl, Nat.le_of_ble_eq_true rfl⟩ rfl 0 rfl rfl rfl [0, 1] rfl (srt_nd 0 rfl) (ws' := w_X9_barred (xG g) q F c_this_far) (Put.m rfl rfl rfl) rfl (rest := [.int (jz r33)]) rfl (Nat.le_of_ble_eq_true rfl) ⟨Nat.zero_le _, Nat.zero_le _⟩ ?_
        refine r_aload_n C (pc := 42) dX9_barred_42 rfl 0 rfl ?_
        refine r_iload_n C (pc := 43) dX9_barred_43 rfl 2 rfl ?_
        refine r_iload_n C (pc := 44) dX9_barred_44 rfl 3 rfl ?_
        obtain ⟨r45, e45, h⟩ := wp_b1 h
        refine b_cVi C (pc := 45) dX9_barred_45 (c_X9_d (xl g) (xG g) q F c_this_far v2_12 v3_22 r45 e45) rfl gX9_barred_X9_d ⟨rfl, rfl⟩ 2 hd_X9_d ⟨Nat.le_of_ble_eq_true rfl, Nat.le_of_ble_eq_true rfl⟩ rfl 0 rfl rfl rfl [0, 1] rfl (srt_nd 0 rfl) (ws' := w_X9_barred (xG g) q F c_this_far) (Put.m rfl rfl rfl) rfl (rest := [.int (jz r39), .int (jz r33)]) rfl (Nat.le_of_ble_eq_true rfl) ⟨Nat.zero_le _, Nat.zero_le _⟩ ?_
        refine r_iadd C (pc := 48) dX9_barred_48 ?_
        refine r_icmp_le C (pc := 49) 64 dX9_barred_49 rfl h (fun c49 h => ?_) (fun c49 h => ?_)
        · refine r_iinc C (pc := 64) dX9_barred_64 3 rfl (by decide) (L' := [(0, .ref (q 35)), (1, .int (jz v1_2)), (2, .int (jz v2_12)), (3, .int (jz (v3_22 + 1)))]) rfl ?_
          refine r_goto C (pc := 67) 22 dX9_barred_67 rfl ?_
          exact hn22 (v3_22 + 1) h
        · refine r_bipush C (pc := 52) dX9_barred_52 rfl ?_
          refine r_iload_n C (pc := 54) dX9_barred_54 rfl 1 rfl ?_
          refine r_imul C (pc := 55) dX9_barred_55 ?_
          refine r_bipush C (pc := 56) dX9_barred_56 rfl ?_
          refine r_iload_n C (pc := 58) dX9_barred_58 rfl 2 rfl ?_
          refine r_imul C (pc := 59) dX9_barred_59 ?_
          refine r_iadd C (pc := 60) dX9_barred_60 ?_
          refine r_iload_n C (pc := 61) dX9_barred_61 rfl 3 rfl ?_
          refine r_iadd C (pc := 62) dX9_barred_62 ?_
          exact r_iret C (pc := 63) dX9_barred_63 (hK (((100 * v1_2) + (10 * v2_12)) + v3_22) (wp_s h) rfl)
theorem c_X9_barred (l : Launch) (G : gG) (q : Nat → Nat) (F : Nat → Int) (c_this_far : Nat → Int) (r : Int) (hf : f_X9_barred (F 0) c_this_far = some r) : CTi l yX9_barred wsX9_barred rm_X9_barred G (w_X9_barred G q F c_this_far) [.ref (q 35)] (jz r) (w_X9_barred G q F c_this_far) := CTi_of (by decide) rfl rfl (Nat.le_of_ble_eq_true rfl) (fun g C hG hl hF => by
    subst hG
    subst hl
    exact k_X9_barred C q F c_this_far (fun x => x = r) (fun r' e => by cases e; exact hF) ⟨_, hf, rfl⟩)

-- TightHullsModel.orders()I
def f_X9_orders (m_points : Int) : Option Int := lq2 (fun (n4 : Int → Int → Option Int) (v1_4 : Int) (v2_4 : Int) => if ltI v2_4 m_points = true then (lv ((v1_4 * m_points)) (fun x18 => n4 x18 (v2_4 + 1))) else (some v1_4)) 300 1 0
abbrev rm_X9_orders : Room := { frames := 0, cells := 0, slots := 0, locals := 0 }
abbrev w_X9_orders (G : gG) (q : Nat → Nat) (F : Nat → Int) : va_W := [((q 35), oX9 F q)]
theorem hd_X9_orders : yX9_orders.cls = RX9 ∧ yX9_orders.cls ≠ "java/lang/invoke/MethodHandle" ∧ yX9_orders.cls ≠ "java/lang/invoke/VarHandle" ∧ (parseMethodDescriptor yX9_orders.desc).map (fun d => d.parameters.length) = some 0 := by decide +kernel
theorem in_X9_orders_X9 : ∀ w ∈ u_ws RX9 TX9 35, w ∈ wsX9_orders := fun w h => List.mem_cons_of_mem _ (List.mem_append_right _ (h))
theorem gf_X9_orders_9 : GF wsX9_orders RX9 9 8 0 := ⟨RX9, TX9, 35, rfl, in_X9_orders_X9, by decide, List.mem_of_getElem? (i := 1) rfl⟩
set_option maxRecDepth 100000 in
set_option maxHeartbeats 4000000 in
theorem k_X9_orders {g : XC} (C : XOk g cX9_orders RX9 wsX9_orders rm_X9_orders 3) (q : Nat → Nat) (F : Nat → Int)  (K : Int → Prop) (hK : ∀ (r : Int), K r → (narrow .int (.int (jz r)) = .int (jz r) → FinI g 0 0 (w_X9_orders (xG g) q F) (jz r))) (h : wp (f_X9_orders (F 0)) K) : WW g 0 0 (w_X9_orders (xG g) q F) 0 [(0, .ref (q 35))] [] := by
  unfold f_X9_orders at h
  refine r_iconst C (pc := 0) dX9_orders_0 ?_
  refine r_istore_n C (pc := 1) dX9_orders_1 rfl (by decide) (L' := [(0, .ref (q 35)), (1, .int (jz 1))]) rfl ?_
  refine r_iconst C (pc := 2) dX9_orders_2 ?_
  refine r_istore_n C (pc := 3) dX9_orders_3 rfl (by decide) (L' := [(0, .ref (q 35)), (1, .int (jz 1)), (2, .int (jz 0))]) rfl ?_
  refine lq2_e (fun (v1_4 : Int) (v2_4 : Int) => WW g 0 0 (w_X9_orders (xG g) q F) 4 [(0, .ref (q 35)), (1, .int (jz v1_4)), (2, .int (jz v2_4))] []) h (fun n4 hn4 v1_4 v2_4 h => ?_)
  refine r_iload_n C (pc := 4) dX9_orders_4 rfl 2 rfl ?_
  refine r_aload_n C (pc := 5) dX9_orders_5 rfl 0 rfl ?_
  refine r_get C (pc := 6) dX9_orders_6 gf_X9_orders_9 0 rfl rfl ?_
  refine r_icmp_ge C (pc := 9) 25 dX9_orders_9 rfl h (fun c9 h => ?_) (fun c9 h => ?_)
  · refine r_iload_n C (pc := 25) dX9_orders_25 rfl 1 rfl ?_
    exact r_iret C (pc := 26) dX9_orders_26 (hK v1_4 (wp_s h) rfl)
  · refine r_iload_n C (pc := 12) dX9_orders_12 rfl 1 rfl ?_
    refine r_aload_n C (pc := 13) dX9_orders_13 rfl 0 rfl ?_
    refine r_get C (pc := 14) dX9_orders_14 gf_X9_orders_9 0 rfl rfl ?_
    refine r_imul C (pc := 17) dX9_orders_17 ?_
    refine r_let h (fun x18 h => ?_)
    refine r_istore_n C (pc := 18) dX9_orders_18 rfl (by decide) (L' := [(0, .ref (q 35)), (1, .int (jz x18)), (2, .int (jz v2_4))]) rfl ?_
    refine r_iinc C (pc := 19) dX9_orders_19 2 rfl (by decide) (L' := [(0, .ref (q 35)), (1, .int (jz x18)), (2, .int (jz (v2_4 + 1)))]) rfl ?_
    refine r_goto C (pc := 22) 4 dX9_orders_22 rfl ?_
    exact hn4 x18 (v2_4 + 1) h
theorem c_X9_orders (l : Launch) (G : gG) (q : Nat → Nat) (F : Nat → Int) (r : Int) (hf : f_X9_orders (F 0) = some r) : CTi l yX9_orders wsX9_orders rm_X9_orders G (w_X9_orders G q F) [.ref (q 35)] (jz r) (w_X9_orders G q F) := CTi_of (by decide) rfl rfl (Nat.le_of_ble_eq_true rfl) (fun g C hG hl hF => by
    subst hG
    subst hl
    exact k_X9_orders C q F (fun x => x = r) (fun r' e => by cases e; exact hF) ⟨_, hf, rfl⟩)

-- TightHullsModel.keeps([II)Z
def f_X9_keeps (p2 : Int) (n_p1 : Nat) (m_points : Int) (c_this_far : Nat → Int) (c_p1 : Nat → Int) : Option Int := lq1 (fun (n2 : Int → Option Int) (v3_2 : Int) => if ltI v3_2 m_points = true then (lq1 (fun (n13 : Int → Option Int) (v4_13 : Int) => if ltI v4_13 v3_2 = true then (grd (iin (p2 + v3_2) n_p1) (grd (iin (p2 + v4_13) n_p1) (bd1 (f_X9_d v3_2 v4_13 c_this_far) (fun r36 => if ltI ((c_p1 (ix (p2 + v3_2))) + (c_p1 (ix (p2 + v4_13)))) (2 * r36) = true then (some 0) else (n13 (v4_13 + 1)))))) else (n2 (v3_2 + 1))) 300 0) else (some 1)) 300 0
abbrev rm_X9_keeps : Room := { frames := 1, cells := 0, slots := 0, locals := 22 }
abbrev w_X9_keeps (G : gG) (q : Nat → Nat) (a_p1 : Nat) (n_p1 : Nat) (F : Nat → Int) (c_this_far : Nat → Int) (c_p1 : Nat → Int) : va_W := [((q 35), oX9 F q), ((q 1), aI G 25 c_this_far), (a_p1, aI G n_p1 c_p1)]
theorem hd_X9_keeps : yX9_keeps.cls = RX9 ∧ yX9_keeps.cls ≠ "java/lang/invoke/MethodHandle" ∧ yX9_keeps.cls ≠ "java/lang/invoke/VarHandle" ∧ (parseMethodDescriptor yX9_keeps.desc).map (fun d => d.parameters.length) = some 2 := by decide +kernel
theorem in_X9_keeps_X9 : ∀ w ∈ u_ws RX9 TX9 35, w ∈ wsX9_keeps := fun w h => List.mem_cons_of_mem _ (List.mem_append_right _ (h))
theorem gf_X9_keeps_9 : GF wsX9_keeps RX9 9 8 0 := ⟨RX9, TX9, 35, rfl, in_X9_keeps_X9, by decide, List.mem_of_getElem? (i := 1) rfl⟩
set_option maxRecDepth 100000 in
set_option maxHeartbeats 4000000 in
theorem k_X9_keeps {g : XC} (C : XOk g cX9_keeps RX9 wsX9_keeps rm_X9_keeps 5) (q : Nat → Nat) (a_p1 : Nat) (n_p1 : Nat) (F : Nat → Int) (c_this_far : Nat → Int) (c_p1 : Nat → Int) (p2 : Int) (K : Int → Prop) (hK : ∀ (r : Int), K r → (narrow .boolean (.int (jz r)) = .int (jz r) → FinI g 0 0 (w_X9_keeps (xG g) q a_p1 n_p1 F c_this_far c_p1) (jz r))) (h : wp (f_X9_keeps p2 n_p1 (F 0) c_this_far c_p1) K) : WW g 0 0 (w_X9_keeps (xG g) q a_p1 n_p1 F c_this_far c_p1) 0 [(0, .ref (q 35)), (1, .ref a_p1), (2, .int (jz p2))] [] := by
  unfold f_X9_keeps at h
  refine r_iconst C (pc := 0) dX9_keeps_0 ?_
  refine r_istore_n C (pc := 1) dX9_keeps_1 rfl (by decide) (L' := [(0, .ref (q 35)), (1, .ref a_p1), (2, .int (jz p2)), (3, .int (jz 0))]) rfl ?_
  refine lq1_e (fun (v3_2 : Int) => WW g 0 0 (w_X9_keeps (xG g) q a_p1 n_p1 F c_this_far c_p1) 2 [(0, .ref (q 35)), (1, .ref a_p1), (2, .int (jz p2)), (3, .int (jz v3_2))] []) h (fun n2 hn2 v3_2 h => ?_)
  refine r_iload_n C (pc := 2) dX9_keeps_2 rfl 3 rfl ?_
  refine r_aload_n C (pc := 3) dX9_keeps_3 rfl 0 rfl ?_
  refine r_get C (pc := 4) dX9_keeps_4 gf_X9_keeps_9 0 rfl rfl ?_
  refine r_icmp_ge C (pc := 7) 57 dX9_keeps_7 rfl h (fun c7 h => ?_) (fun c7 h => ?_)
  · refine r_iconst C (pc := 57) dX9_keeps_57 ?_
    exact r_iret C (pc := 58) dX9_keeps_58 (hK 1 (wp_s h) (nB rfl).1)
  · refine r_iconst C (pc := 10) dX9_keeps_10 ?_
    refine r_istore C (pc := 11) dX9_keeps_11 (by decide) (L' := [(0, .ref (q 35)), (1, .ref a_p1), (2, .int (jz p2)), (3, .int (jz v3_2)), (4, .int (jz 0))]) rfl ?_
    refine lq1_e (fun (v4_13 : Int) => WW g 0 0 (w_X9_keeps (xG g) q a_p1 n_p1 F c_this_far c_p1) 13 [(0, .ref (q 35)), (1, .ref a_p1), (2, .int (jz p2)), (3, .int (jz v3_2)), (4, .int (jz v4_13))] []) h (fun n13 hn13 v4_13 h => ?_)
    refine r_iload C (pc := 13) dX9_keeps_13 4 rfl ?_
    refine r_iload_n C (pc := 15) dX9_keeps_15 rfl 3 rfl ?_
    refine r_icmp_ge C (pc := 16) 51 dX9_keeps_16 rfl h (fun c16 h => ?_) (fun c16 h => ?_)
    · refine r_iinc C (pc := 51) dX9_keeps_51 3 rfl (by decide) (L' := [(0, .ref (q 35)), (1, .ref a_p1), (2, .int (jz p2)), (3, .int (jz (v3_2 + 1))), (4, .int (jz v4_13))]) rfl ?_
      refine r_goto C (pc := 54) 2 dX9_keeps_54 rfl ?_
      refine r_sub [0, 1, 2, 3] rfl ?_
      exact hn2 (v3_2 + 1) h
    · refine r_aload_n C (pc := 19) dX9_keeps_19 rfl 1 rfl ?_
      refine r_iload_n C (pc := 20) dX9_keeps_20 rfl 2 rfl ?_
      refine r_iload_n C (pc := 21) dX9_keeps_21 rfl 3 rfl ?_
      refine r_iadd C (pc := 22) dX9_keeps_22 ?_
      refine r_iald C (pc := 23) dX9_keeps_23 h 2 rfl (fun h => ?_)
      refine r_aload_n C (pc := 24) dX9_keeps_24 rfl 1 rfl ?_
      refine r_iload_n C (pc := 25) dX9_keeps_25 rfl 2 rfl ?_
      refine r_iload C (pc := 26) dX9_keeps_26 4 rfl ?_
      refine r_iadd C (pc := 28) dX9_keeps_28 ?_
      refine r_iald C (pc := 29) dX9_keeps_29 h 2 rfl (fun h => ?_)
      refine r_iadd C (pc := 30) dX9_keeps_30 ?_
      refine r_iconst C (pc := 31) dX9_keeps_31 ?_
      refine r_aload_n C (pc := 32) dX9_keeps_32 rfl 0 rfl ?_
      refine r_iload_n C (pc := 33) dX9_keeps_33 rfl 3 rfl ?_
      refine r_iload C (pc := 34) dX9_keeps_34 4 rfl ?_
      obtain ⟨r36, e36, h⟩ := wp_b1 h
      refine b_cVi C (pc := 36) dX9_keeps_36 (c_X9_d (xl g) (xG g) q F c_this_far v3_2 v4_13 r36 e36) rfl gX9_keeps_X9_d ⟨rfl, rfl⟩ 2 hd_X9_d ⟨Nat.le_of_ble_eq_true rfl, Nat.le_of_ble_eq_true rfl⟩ rfl 0 rfl rfl rfl [0, 1] rfl (srt_nd 0 rfl) (ws' := w_X9_keeps (xG g) q a_p1 n_p1 F c_this_far c_p1) (Put.m rfl rfl rfl) rfl (rest := [.int (jz 2), .int (jz ((c_p1 (ix (p2 + v3_2))) + (c_p1 (ix (p2 + v4_13)))))]) rfl (Nat.le_of_ble_eq_true rfl) ⟨Nat.zero_le _, Nat.zero_le _⟩ ?_
      refine r_imul C (pc := 39) dX9_keeps_39 ?_
      refine r_icmp_ge C (pc := 40) 45 dX9_keeps_40 rfl h (fun c40 h => ?_) (fun c40 h => ?_)
      · refine r_iinc C (pc := 45) dX9_keeps_45 4 rfl (by decide) (L' := [(0, .ref (q 35)), (1, .ref a_p1), (2, .int (jz p2)), (3, .int (jz v3_2)), (4, .int (jz (v4_13 + 1)))]) rfl ?_
        refine r_goto C (pc := 48) 13 dX9_keeps_48 rfl ?_
        exact hn13 (v4_13 + 1) h
      · refine r_iconst C (pc := 43) dX9_keeps_43 ?_
        exact r_iret C (pc := 44) dX9_keeps_44 (hK 0 (wp_s h) (nB rfl).1)
theorem c_X9_keeps (l : Launch) (G : gG) (q : Nat → Nat) (a_p1 : Nat) (n_p1 : Nat) (F : Nat → Int) (c_this_far : Nat → Int) (c_p1 : Nat → Int) (p2 : Int) (r : Int) (hf : f_X9_keeps p2 n_p1 (F 0) c_this_far c_p1 = some r) : CTi l yX9_keeps wsX9_keeps rm_X9_keeps G (w_X9_keeps G q a_p1 n_p1 F c_this_far c_p1) [.ref (q 35), .ref a_p1, .int (jz p2)] (jz r) (w_X9_keeps G q a_p1 n_p1 F c_this_far c_p1) := CTi_of (by decide) rfl rfl (Nat.le_of_ble_eq_true rfl) (fun g C hG hl hF => by
    subst hG
    subst hl
    exact k_X9_keeps C q a_p1 n_p1 F c_this_far c_p1 p2 (fun x => x = r) (fun r' e => by cases e; exact hF) ⟨_, hf, rfl⟩)

-- TightHullsModel.tries()Z
def f_X9_tries (m_points : Int) (c_this_far : Nat → Int) (c_this_named : Nat → Int) (c_this_tried : Nat → Int) : Option (Int × (Nat → Int)) := lq2 (fun (n2 : Int → (Nat → Int) → Option (Int × (Nat → Int))) (v1_2 : Int) (this_tried_2 : Nat → Int) => if ltI v1_2 m_points = true then (grd (iin v1_2 6) (n2 (v1_2 + 1) (up this_tried_2 (ix v1_2) (-1)))) else (lq2 (fun (n25 : Int → (Nat → Int) → Option (Int × (Nat → Int))) (v1_25 : Int) (this_tried_25 : Nat → Int) => if ltI v1_25 m_points = true then (lq2 (fun (n37 : Int → Int → Option (Int × (Nat → Int))) (v2_37 : Int) (v3_37 : Int) => if ltI v3_37 m_points = true then (grd (iin v2_37 5) (lv ((c_this_named (ix v2_37))) (fun x51 => n37 x51 (v3_37 + 1)))) else (grd (iin v2_37 5) (bd1 (f_X9_d v2_37 (c_this_named (ix v2_37)) c_this_far) (fun r69 => lv ((2 * r69)) (fun x73 => grd (iin v2_37 5) (lv ((c_this_named (ix v2_37))) (fun x81 => lq3 (fun (n83 : Int → Int → Int → Option (Int × (Nat → Int))) (v3_83 : Int) (v4_83 : Int) (v5_83 : Int) => if eqI v5_83 v2_37 = true then (grd (!(eqI 2 0)) (if eqI (remI v3_83 2) 0 = true then (some (0, this_tried_25)) else (grd (!(eqI 2 0)) (lv ((divI v4_83 2)) (fun x153 => grd (iin v2_37 6) (n25 (v1_25 + 1) (up this_tried_25 (ix v2_37) x153))))))) else (grd (!(eqI 2 0)) (jn (fun (s1_107 : Int) => grd (iin v5_83 5) (bd1 (f_X9_d v5_83 (c_this_named (ix v5_83)) c_this_far) (fun r117 => lv ((v4_83 + (s1_107 * r117))) (fun x122 => grd (iin v5_83 5) (lv ((c_this_named (ix v5_83))) (fun x131 => n83 (v3_83 + 1) x122 x131)))))) (fun (k107 : Int → Option (Int × (Nat → Int))) => if eqI (remI (v3_83 + 1) 2) 1 = true then (k107 2) else (k107 (-2)))))) 300 1 x73 x81))))))) 300 v1_25 0) else (lq2 (fun (n162 : Int → (Nat → Int) → Option (Int × (Nat → Int))) (v1_162 : Int) (this_tried_162 : Nat → Int) => if ltI v1_162 m_points = true then (lq2 (fun (n172 : Int → (Nat → Int) → Option (Int × (Nat → Int))) (v2_172 : Int) (this_tried_172 : Nat → Int) => if ltI v2_172 m_points = true then (grd (iin v2_172 6) (jn (fun (s2_242 : Int) => grd (iin v2_172 6) (n172 (v2_172 + 1) (up this_tried_172 (ix v2_172) s2_242))) (fun (k242 : Int → Option (Int × (Nat → Int))) => jn (grd (iin v2_172 6) (k242 (this_tried_172 (ix v2_172)))) (fun (k236 : Option (Int × (Nat → Int))) => if ltI (this_tried_172 (ix v2_172)) 0 = true then (grd (iin v2_172 5) (grd (iin (c_this_named (ix v2_172)) 6) (if ltI (this_tried_172 (ix (c_this_named (ix v2_172)))) 0 = true then k236 else (grd (iin v2_172 5) (bd1 (f_X9_d v2_172 (c_this_named (ix v2_172)) c_this_far) (fun r217 => grd (iin v2_172 5) (grd (iin (c_this_named (ix v2_172)) 6) (k242 ((2 * r217) - (this_tried_172 (ix (c_this_named (ix v2_172))))))))))))) else k236)))) else (n162 (v1_162 + 1) this_tried_172)) 300 0 this_tried_162) else (lq1 (fun (n257 : Int → Option (Int × (Nat → Int))) (v1_257 : Int) => if ltI v1_257 m_points = true then (grd (iin v1_257 6) (jn (some (0, this_tried_162)) (fun (k308 : Option (Int × (Nat → Int))) => if ltI (this_tried_162 (ix v1_257)) 0 = true then k308 else (grd (iin v1_257 6) (grd (iin v1_257 5) (grd (iin (c_this_named (ix v1_257)) 6) (grd (iin v1_257 5) (bd1 (f_X9_d v1_257 (c_this_named (ix v1_257)) c_this_far) (fun r301 => if eqI ((this_tried_162 (ix v1_257)) + (this_tried_162 (ix (c_this_named (ix v1_257))))) (2 * r301) = true then (n257 (v1_257 + 1)) else k308))))))))) else (bd1 (f_X9_keeps 0 6 m_points c_this_far this_tried_162) (fun r322 => grd (isB r322) (some (r322, this_tried_162))))) 300 0)) 300 0 this_tried_25)) 300 0 this_tried_2)) 300 0 c_this_tried
abbrev rm_X9_tries : Room := { frames := 2, cells := 0, slots := 0, locals := 46 }
abbrev w_X9_tries (G : gG) (q : Nat → Nat) (F : Nat → Int) (c_this_far : Nat → Int) (c_this_named : Nat → Int) (c_this_tried : Nat → Int) : va_W := [((q 35), oX9 F q), ((q 1), aI G 25 c_this_far), ((q 25), aI G 5 c_this_named), ((q 26), aI G 6 c_this_tried)]
theorem hd_X9_tries : yX9_tries.cls = RX9 ∧ yX9_tries.cls ≠ "java/lang/invoke/MethodHandle" ∧ yX9_tries.cls ≠ "java/lang/invoke/VarHandle" ∧ (parseMethodDescriptor yX9_tries.desc).map (fun d => d.parameters.length) = some 0 := by decide +kernel
theorem in_X9_tries_X9 : ∀ w ∈ u_ws RX9 TX9 35, w ∈ wsX9_tries := fun w h => List.mem_cons_of_mem _ (List.mem_append_right _ (h))
theorem gf_X9_tries_9 : GF wsX9_tries RX9 9 8 0 := ⟨RX9, TX9, 35, rfl, in_X9_tries_X9, by decide, List.mem_of_getElem? (i := 1) rfl⟩
theorem gf_X9_tries_77 : GF wsX9_tries RX9 77 8 26 := ⟨RX9, TX9, 35, rfl, in_X9_tries_X9, by decide, List.mem_of_getElem? (i := 2) rfl⟩
theorem gf_X9_tries_74 : GF wsX9_tries RX9 74 8 25 := ⟨RX9, TX9, 35, rfl, in_X9_tries_X9, by decide, List.mem_of_getElem? (i := 3) rfl⟩
set_option maxRecDepth 100000 in
set_option maxHeartbeats 4000000 in
theorem k_X9_tries {g : XC} (C : XOk g cX9_tries RX9 wsX9_tries rm_X9_tries 6) (q : Nat → Nat) (F : Nat → Int) (c_this_far : Nat → Int) (c_this_named : Nat → Int) (c_this_tried : Nat → Int)  (K : (Int × (Nat → Int)) → Prop) (hK : ∀ (r : Int) (o0 : Nat → Int), K (r, o0) → (narrow .boolean (.int (jz r)) = .int (jz r) → FinI g 0 0 (w_X9_tries (xG g) q F c_this_far c_this_named o0) (jz r))) (h : wp (f_X9_tries (F 0) c_this_far c_this_named c_this_tried) K) : WW g 0 0 (w_X9_tries (xG g) q F c_this_far c_this_named c_this_tried) 0 [(0, .ref (q 35))] [] := by
  unfold f_X9_tries at h
  refine r_iconst C (pc := 0) dX9_tries_0 ?_
  refine r_istore_n C (pc := 1) dX9_tries_1 rfl (by decide) (L' := [(0, .ref (q 35)), (1, .int (jz 0))]) rfl ?_
  refine lq2_e (fun (v1_2 : Int) (this_tried_2 : Nat → Int) => WW g 0 0 (w_X9_tries (xG g) q F c_this_far c_this_named this_tried_2) 2 [(0, .ref (q 35)), (1, .int (jz v1_2))] []) h (fun n2 hn2 v1_2 this_tried_2 h => ?_)
  refine r_iload_n C (pc := 2) dX9_tries_2 rfl 1 rfl ?_
  refine r_aload_n C (pc := 3) dX9_tries_3 rfl 0 rfl ?_
  refine r_get C (pc := 4) dX9_tries_4 gf_X9_tries_9 0 rfl rfl ?_
  refine r_icmp_ge C (pc := 7) 23 dX9_tries_7 rfl h (fun c7 h => ?_) (fun c7 h => ?_)
  · refine r_iconst C (pc := 23) dX9_tries_23 ?_
    refine r_istore_n C (pc := 24) dX9_tries_24 rfl (by decide) (L' := [(0, .ref (q 35)), (1, .int (jz 0))]) rfl ?_
    refine lq2_e (fun (v1_25 : Int) (this_tried_25 : Nat → Int) => WW g 0 0 (w_X9_tries (xG g) q F c_this_far c_this_named this_tried_25) 25 [(0, .ref (q 35)), (1, .int (jz v1_25))] []) h (fun n25 hn25 v1_25 this_tried_25 h => ?_)
    refine r_iload_n C (pc := 25) dX9_tries_25 rfl 1 rfl ?_
    refine r_aload_n C (pc := 26) dX9_tries_26 rfl 0 rfl ?_
    refine r_get C (pc := 27) dX9_tries_27 gf_X9_tries_9 0 rfl rfl ?_
    refine r_icmp_ge C (pc := 30) 160 dX9_tries_30 rfl h (fun c30 h => ?_) (fun c30 h => ?_)
    · refine r_iconst C (pc := 160) dX9_tries_160 ?_
      refine r_istore_n C (pc := 161) dX9_tries_161 rfl (by decide) (L' := [(0, .ref (q 35)), (1, .int (jz 0))]) rfl ?_
      refine lq2_e (fun (v1_162 : Int) (this_tried_162 : Nat → Int) => WW g 0 0 (w_X9_tries (xG g) q F c_this_far c_this_named this_tried_162) 162 [(0, .ref (q 35)), (1, .int (jz v1_162))] []) h (fun n162 hn162 v1_162 this_tried_162 h => ?_)
      refine r_iload_n C (pc := 162) dX9_tries_162 rfl 1 rfl ?_
      refine r_aload_n C (pc := 163) dX9_tries_163 rfl 0 rfl ?_
      refine r_get C (pc := 164) dX9_tries_164 gf_X9_tries_9 0 rfl rfl ?_
      refine r_icmp_ge C (pc := 167) 255 dX9_tries_167 rfl h (fun c167 h => ?_) (fun c167 h => ?_)
      · refine r_iconst C (pc := 255) dX9_tries_255 ?_
        refine r_istore_n C (pc := 256) dX9_tries_256 rfl (by decide) (L' := [(0, .ref (q 35)), (1, .int (jz 0))]) rfl ?_
        refine lq1_e (fun (v1_257 : Int) => WW g 0 0 (w_X9_tries (xG g) q F c_this_far c_this_named this_tried_162) 257 [(0, .ref (q 35)), (1, .int (jz v1_257))] []) h (fun n257 hn257 v1_257 h => ?_)
        refine r_iload_n C (pc := 257) dX9_tries_257 rfl 1 rfl ?_
        refine r_aload_n C (pc := 258) dX9_tries_258 rfl 0 rfl ?_
        refine r_get C (pc := 259) dX9_tries_259 gf_X9_tries_9 0 rfl rfl ?_
        refine r_icmp_ge C (pc := 262) 316 dX9_tries_262 rfl h (fun c262 h => ?_) (fun c262 h => ?_)
        · refine r_aload_n C (pc := 316) dX9_tries_316 rfl 0 rfl ?_
          refine r_aload_n C (pc := 317) dX9_tries_317 rfl 0 rfl ?_
          refine r_get C (pc := 318) dX9_tries_318 gf_X9_tries_77 0 rfl rfl ?_
          refine r_iconst C (pc := 321) dX9_tries_321 ?_
          obtain ⟨r322, e322, h⟩ := wp_b1 h
          refine b_cVi C (pc := 322) dX9_tries_322 (c_X9_keeps (xl g) (xG g) q (q 26) 6 F c_this_far this_tried_162 0 r322 e322) rfl gX9_tries_X9_keeps ⟨rfl, rfl⟩ 2 hd_X9_keeps ⟨Nat.le_of_ble_eq_true rfl, Nat.le_of_ble_eq_true rfl⟩ rfl 0 rfl rfl rfl [0, 1, 3] rfl (srt_nd 0 rfl) (ws' := w_X9_tries (xG g) q F c_this_far c_this_named this_tried_162) (Put.m rfl rfl rfl) rfl (rest := []) rfl (Nat.le_of_ble_eq_true rfl) ⟨Nat.zero_le _, Nat.zero_le _⟩ ?_
          exact r_iret C (pc := 325) dX9_tries_325 (hK r322 this_tried_162 (wp_s (wp_g h).2) (nB (wp_g h).1).1)
        · refine r_aload_n C (pc := 265) dX9_tries_265 rfl 0 rfl ?_
          refine r_get C (pc := 266) dX9_tries_266 gf_X9_tries_77 0 rfl rfl ?_
          refine r_iload_n C (pc := 269) dX9_tries_269 rfl 1 rfl ?_
          refine r_iald C (pc := 270) dX9_tries_270 h 3 rfl (fun h => ?_)
          refine jn_e (fun (k308 : Option (Int × (Nat → Int))) => wp (k308) K → WW g 0 0 (w_X9_tries (xG g) q F c_this_far c_this_named this_tried_162) 308 [] []) h (fun h => ?_) (fun k308 hk308 h => ?_)
          · refine r_iconst C (pc := 308) dX9_tries_308 ?_
            exact r_iret C (pc := 309) dX9_tries_309 (hK 0 this_tried_162 (wp_s h) (nB rfl).1)
          · refine r_if_lt C (pc := 271) 308 dX9_tries_271 rfl h (fun c271 h => ?_) (fun c271 h => ?_)
            · refine r_sub [] rfl ?_
              exact hk308 h
            · refine r_aload_n C (pc := 274) dX9_tries_274 rfl 0 rfl ?_
              refine r_get C (pc := 275) dX9_tries_275 gf_X9_tries_77 0 rfl rfl ?_
              refine r_iload_n C (pc := 278) dX9_tries_278 rfl 1 rfl ?_
              refine r_iald C (pc := 279) dX9_tries_279 h 3 rfl (fun h => ?_)
              refine r_aload_n C (pc := 280) dX9_tries_280 rfl 0 rfl ?_
              refine r_get C (pc := 281) dX9_tries_281 gf_X9_tries_77 0 rfl rfl ?_
              refine r_aload_n C (pc := 284) dX9_tries_284 rfl 0 rfl ?_
              refine r_get C (pc := 285) dX9_tries_285 gf_X9_tries_74 0 rfl rfl ?_
              refine r_iload_n C (pc := 288) dX9_tries_288 rfl 1 rfl ?_
              refine r_iald C (pc := 289) dX9_tries_289 h 2 rfl (fun h => ?_)
              refine r_iald C (pc := 290) dX9_tries_290 h 3 rfl (fun h => ?_)
              refine r_iadd C (pc := 291) dX9_tries_291 ?_
              refine r_iconst C (pc := 292) dX9_tries_292 ?_
              refine r_aload_n C (pc := 293) dX9_tries_293 rfl 0 rfl ?_
              refine r_iload_n C (pc := 294) dX9_tries_294 rfl 1 rfl ?_
              refine r_aload_n C (pc := 295) dX9_tries_295 rfl 0 rfl ?_
              refine r_get C (pc := 296) dX9_tries_296 gf_X9_tries_74 0 rfl rfl ?_
              refine r_iload_n C (pc := 299) dX9_tries_299 rfl 1 rfl ?_
              refine r_iald C (pc := 300) dX9_tries_300 h 2 rfl (fun h => ?_)
              obtain ⟨r301, e301, h⟩ := wp_b1 h
              refine b_cVi C (pc := 301) dX9_tries_301 (c_X9_d (xl g) (xG g) q F c_this_far v1_257 (c_this_named (ix v1_257)) r301 e301) rfl gX9_tries_X9_d ⟨rfl, rfl⟩ 2 hd_X9_d ⟨Nat.le_of_ble_eq_true rfl, Nat.le_of_ble_eq_true rfl⟩ rfl 0 rfl rfl rfl [0, 1] rfl (srt_nd 0 rfl) (ws' := w_X9_tries (xG g) q F c_this_far c_this_named this_tried_162) (Put.m rfl rfl rfl) rfl (rest := [.int (jz 2), .int (jz ((this_tried_162 (ix v1_257)) + (this_tried_162 (ix (c_this_named (ix v1_257))))))]) rfl (Nat.le_of_ble_eq_true rfl) ⟨Nat.zero_le _, Nat.zero_le _⟩ ?_
              refine r_imul C (pc := 304) dX9_tries_304 ?_
              refine r_icmp_eq C (pc := 305) 310 dX9_tries_305 rfl h (fun c305 h => ?_) (fun c305 h => ?_)
              · refine r_iinc C (pc := 310) dX9_tries_310 1 rfl (by decide) (L' := [(0, .ref (q 35)), (1, .int (jz (v1_257 + 1)))]) rfl ?_
                refine r_goto C (pc := 313) 257 dX9_tries_313 rfl ?_
                exact hn257 (v1_257 + 1) h
              · refine r_sub [] rfl ?_
                exact hk308 h
      · refine r_iconst C (pc := 170) dX9_tries_170 ?_
        refine r_istore_n C (pc := 171) dX9_tries_171 rfl (by decide) (L' := [(0, .ref (q 35)), (1, .int (jz v1_162)), (2, .int (jz 0))]) rfl ?_
        refine lq2_e (fun (v2_172 : Int) (this_tried_172 : Nat → Int) => WW g 0 0 (w_X9_tries (xG g) q F c_this_far c_this_named this_tried_172) 172 [(0, .ref (q 35)), (1, .int (jz v1_162)), (2, .int (jz v2_172))] []) h (fun n172 hn172 v2_172 this_tried_172 h => ?_)
        refine r_iload_n C (pc := 172) dX9_tries_172 rfl 2 rfl ?_
        refine r_aload_n C (pc := 173) dX9_tries_173 rfl 0 rfl ?_
        refine r_get C (pc := 174) dX9_tries_174 gf_X9_tries_9 0 rfl rfl ?_
        refine r_icmp_ge C (pc := 177) 249 dX9_tries_177 rfl h (fun c177 h => ?_) (fun c177 h => ?_)
        · refine r_iinc C (pc := 249) dX9_tries_249 1 rfl (by decide) (L' := [(0, .ref (q 35)), (1, .int (jz (v1_162 + 1))), (2, .int (jz v2_172))]) rfl ?_
          refine r_goto C (pc := 252) 162 dX9_tries_252 rfl ?_
          refine r_sub [0, 1] rfl ?_
          exact hn162 (v1_162 + 1) this_tried_172 h
        · refine r_aload_n C (pc := 180) dX9_tries_180 rfl 0 rfl ?_
          refine r_get C (pc := 181) dX9_tries_181 gf_X9_tries_77 0 rfl rfl ?_
          refine r_iload_n C (pc := 184) dX9_tries_184 rfl 2 rfl ?_
          refine r_aload_n C (pc := 185) dX9_tries_185 rfl 0 rfl ?_
          refine r_get C (pc := 186) dX9_tries_186 gf_X9_tries_77 0 rfl rfl ?_
          refine r_iload_n C (pc := 189) dX9_tries_189 rfl 2 rfl ?_
          refine r_iald C (pc := 190) dX9_tries_190 h 3 rfl (fun h => ?_)
          refine jn_e (fun (k242 : Int → Option (Int × (Nat → Int))) => ∀ (s2_242 : Int), wp (k242 s2_242) K → WW g 0 0 (w_X9_tries (xG g) q F c_this_far c_this_named this_tried_172) 242 [(0, .ref (q 35)), (1, .int (jz v1_162)), (2, .int (jz v2_172))] [.int (jz s2_242), .int (jz v2_172), .ref (q 26)]) h (fun s2_242 h => ?_) (fun k242 hk242 h => ?_)
          · refine r_iast C (pc := 242) dX9_tries_242 h 3 rfl (ws' := w_X9_tries (xG g) q F c_this_far c_this_named (up this_tried_172 (ix v2_172) s2_242)) rfl (fun h => ?_)
            refine r_iinc C (pc := 243) dX9_tries_243 2 rfl (by decide) (L' := [(0, .ref (q 35)), (1, .int (jz v1_162)), (2, .int (jz (v2_172 + 1)))]) rfl ?_
            refine r_goto C (pc := 246) 172 dX9_tries_246 rfl ?_
            exact hn172 (v2_172 + 1) (up this_tried_172 (ix v2_172) s2_242) h
          · refine jn_e (fun (k236 : Option (Int × (Nat → Int))) => wp (k236) K → WW g 0 0 (w_X9_tries (xG g) q F c_this_far c_this_named this_tried_172) 236 [(0, .ref (q 35)), (1, .int (jz v1_162)), (2, .int (jz v2_172))] [.int (jz v2_172), .ref (q 26)]) h (fun h => ?_) (fun k236 hk236 h => ?_)
            · refine r_aload_n C (pc := 236) dX9_tries_236 rfl 0 rfl ?_
              refine r_get C (pc := 237) dX9_tries_237 gf_X9_tries_77 0 rfl rfl ?_
              refine r_iload_n C (pc := 240) dX9_tries_240 rfl 2 rfl ?_
              refine r_iald C (pc := 241) dX9_tries_241 h 3 rfl (fun h => ?_)
              exact hk242 (this_tried_172 (ix v2_172)) h
            · refine r_if_ge C (pc := 191) 236 dX9_tries_191 rfl h (fun c191 h => ?_) (fun c191 h => ?_)
              · exact hk236 h
              · refine r_aload_n C (pc := 194) dX9_tries_194 rfl 0 rfl ?_
                refine r_get C (pc := 195) dX9_tries_195 gf_X9_tries_77 0 rfl rfl ?_
                refine r_aload_n C (pc := 198) dX9_tries_198 rfl 0 rfl ?_
                refine r_get C (pc := 199) dX9_tries_199 gf_X9_tries_74 0 rfl rfl ?_
                refine r_iload_n C (pc := 202) dX9_tries_202 rfl 2 rfl ?_
                refine r_iald C (pc := 203) dX9_tries_203 h 2 rfl (fun h => ?_)
                refine r_iald C (pc := 204) dX9_tries_204 h 3 rfl (fun h => ?_)
                refine r_if_lt C (pc := 205) 236 dX9_tries_205 rfl h (fun c205 h => ?_) (fun c205 h => ?_)
                · exact hk236 h
                · refine r_iconst C (pc := 208) dX9_tries_208 ?_
                  refine r_aload_n C (pc := 209) dX9_tries_209 rfl 0 rfl ?_
                  refine r_iload_n C (pc := 210) dX9_tries_210 rfl 2 rfl ?_
                  refine r_aload_n C (pc := 211) dX9_tries_211 rfl 0 rfl ?_
                  refine r_get C (pc := 212) dX9_tries_212 gf_X9_tries_74 0 rfl rfl ?_
                  refine r_iload_n C (pc := 215) dX9_tries_215 rfl 2 rfl ?_
                  refine r_iald C (pc := 216) dX9_tries_216 h 2 rfl (fun h => ?_)
                  obtain ⟨r217, e217, h⟩ := wp_b1 h
                  refine b_cVi C (pc := 217) dX9_tries_217 (c_X9_d (xl g) (xG g) q F c_this_far v2_172 (c_this_named (ix v2_172)) r217 e217) rfl gX9_tries_X9_d ⟨rfl, rfl⟩ 2 hd_X9_d ⟨Nat.le_of_ble_eq_true rfl, Nat.le_of_ble_eq_true rfl⟩ rfl 0 rfl rfl rfl [0, 1] rfl (srt_nd 0 rfl) (ws' := w_X9_tries (xG g) q F c_this_far c_this_named this_tried_172) (Put.m rfl rfl rfl) rfl (rest := [.int (jz 2), .int (jz v2_172), .ref (q 26)]) rfl (Nat.le_of_ble_eq_true rfl) ⟨Nat.zero_le _, Nat.zero_le _⟩ ?_
                  refine r_imul C (pc := 220) dX9_tries_220 ?_
                  refine r_aload_n C (pc := 221) dX9_tries_221 rfl 0 rfl ?_
                  refine r_get C (pc := 222) dX9_tries_222 gf_X9_tries_77 0 rfl rfl ?_
                  refine r_aload_n C (pc := 225) dX9_tries_225 rfl 0 rfl ?_
                  refine r_get C (pc := 226) dX9_tries_226 gf_X9_tries_74 0 rfl rfl ?_
                  refine r_iload_n C (pc := 229) dX9_tries_229 rfl 2 rfl ?_
                  refine r_iald C (pc := 230) dX9_tries_230 h 2 rfl (fun h => ?_)
                  refine r_iald C (pc := 231) dX9_tries_231 h 3 rfl (fun h => ?_)
                  refine r_isub C (pc := 232) dX9_tries_232 ?_
                  refine r_goto C (pc := 233) 242 dX9_tries_233 rfl ?_
                  exact hk242 ((2 * r217) - (this_tried_172 (ix (c_this_named (ix v2_172))))) h
    · refine r_iload_n C (pc := 33) dX9_tries_33 rfl 1 rfl ?_
      refine r_istore_n C (pc := 34) dX9_tries_34 rfl (by decide) (L' := [(0, .ref (q 35)), (1, .int (jz v1_25)), (2, .int (jz v1_25))]) rfl ?_
      refine r_iconst C (pc := 35) dX9_tries_35 ?_
      refine r_istore_n C (pc := 36) dX9_tries_36 rfl (by decide) (L' := [(0, .ref (q 35)), (1, .int (jz v1_25)), (2, .int (jz v1_25)), (3, .int (jz 0))]) rfl ?_
      refine lq2_e (fun (v2_37 : Int) (v3_37 : Int) => WW g 0 0 (w_X9_tries (xG g) q F c_this_far c_this_named this_tried_25) 37 [(0, .ref (q 35)), (1, .int (jz v1_25)), (2, .int (jz v2_37)), (3, .int (jz v3_37))] []) h (fun n37 hn37 v2_37 v3_37 h => ?_)
      refine r_iload_n C (pc := 37) dX9_tries_37 rfl 3 rfl ?_
      refine r_aload_n C (pc := 38) dX9_tries_38 rfl 0 rfl ?_
      refine r_get C (pc := 39) dX9_tries_39 gf_X9_tries_9 0 rfl rfl ?_
      refine r_icmp_ge C (pc := 42) 58 dX9_tries_42 rfl h (fun c42 h => ?_) (fun c42 h => ?_)
      · refine r_iconst C (pc := 58) dX9_tries_58 ?_
        refine r_istore_n C (pc := 59) dX9_tries_59 rfl (by decide) (L' := [(0, .ref (q 35)), (1, .int (jz v1_25)), (2, .int (jz v2_37)), (3, .int (jz 1))]) rfl ?_
        refine r_iconst C (pc := 60) dX9_tries_60 ?_
        refine r_aload_n C (pc := 61) dX9_tries_61 rfl 0 rfl ?_
        refine r_iload_n C (pc := 62) dX9_tries_62 rfl 2 rfl ?_
        refine r_aload_n C (pc := 63) dX9_tries_63 rfl 0 rfl ?_
        refine r_get C (pc := 64) dX9_tries_64 gf_X9_tries_74 0 rfl rfl ?_
        refine r_iload_n C (pc := 67) dX9_tries_67 rfl 2 rfl ?_
        refine r_iald C (pc := 68) dX9_tries_68 h 2 rfl (fun h => ?_)
        obtain ⟨r69, e69, h⟩ := wp_b1 h
        refine b_cVi C (pc := 69) dX9_tries_69 (c_X9_d (xl g) (xG g) q F c_this_far v2_37 (c_this_named (ix v2_37)) r69 e69) rfl gX9_tries_X9_d ⟨rfl, rfl⟩ 2 hd_X9_d ⟨Nat.le_of_ble_eq_true rfl, Nat.le_of_ble_eq_true rfl⟩ rfl 0 rfl rfl rfl [0, 1] rfl (srt_nd 0 rfl) (ws' := w_X9_tries (xG g) q F c_this_far c_this_named this_tried_25) (Put.m rfl rfl rfl) rfl (rest := [.int (jz 2)]) rfl (Nat.le_of_ble_eq_true rfl) ⟨Nat.zero_le _, Nat.zero_le _⟩ ?_
        refine r_imul C (pc := 72) dX9_tries_72 ?_
        refine r_let h (fun x73 h => ?_)
        refine r_istore C (pc := 73) dX9_tries_73 (by decide) (L' := [(0, .ref (q 35)), (1, .int (jz v1_25)), (2, .int (jz v2_37)), (3, .int (jz 1)), (4, .int (jz x73))]) rfl ?_
        refine r_aload_n C (pc := 75) dX9_tries_75 rfl 0 rfl ?_
        refine r_get C (pc := 76) dX9_tries_76 gf_X9_tries_74 0 rfl rfl ?_
        refine r_iload_n C (pc := 79) dX9_tries_79 rfl 2 rfl ?_
        refine r_iald C (pc := 80) dX9_tries_80 h 2 rfl (fun h => ?_)
        refine r_let h (fun x81 h => ?_)
        refine r_istore C (pc := 81) dX9_tries_81 (by decide) (L' := [(0, .ref (q 35)), (1, .int (jz v1_25)), (2, .int (jz v2_37)), (3, .int (jz 1)), (4, .int (jz x73)), (5, .int (jz x81))]) rfl ?_
        refine lq3_e (fun (v3_83 : Int) (v4_83 : Int) (v5_83 : Int) => WW g 0 0 (w_X9_tries (xG g) q F c_this_far c_this_named this_tried_25) 83 [(0, .ref (q 35)), (1, .int (jz v1_25)), (2, .int (jz v2_37)), (3, .int (jz v3_83)), (4, .int (jz v4_83)), (5, .int (jz v5_83))] []) h (fun n83 hn83 v3_83 v4_83 v5_83 h => ?_)
        refine r_iload C (pc := 83) dX9_tries_83 5 rfl ?_
        refine r_iload_n C (pc := 85) dX9_tries_85 rfl 2 rfl ?_
        refine r_icmp_eq C (pc := 86) 136 dX9_tries_86 rfl h (fun c86 h => ?_) (fun c86 h => ?_)
        · refine r_iload_n C (pc := 136) dX9_tries_136 rfl 3 rfl ?_
          refine r_iconst C (pc := 137) dX9_tries_137 ?_
          refine r_irem C (pc := 138) dX9_tries_138 h (fun h => ?_)
          refine r_if_ne C (pc := 139) 144 dX9_tries_139 rfl h (fun c139 h => ?_) (fun c139 h => ?_)
          · refine r_aload_n C (pc := 144) dX9_tries_144 rfl 0 rfl ?_
            refine r_get C (pc := 145) dX9_tries_145 gf_X9_tries_77 0 rfl rfl ?_
            refine r_iload_n C (pc := 148) dX9_tries_148 rfl 2 rfl ?_
            refine r_iload C (pc := 149) dX9_tries_149 4 rfl ?_
            refine r_iconst C (pc := 151) dX9_tries_151 ?_
            refine r_idiv C (pc := 152) dX9_tries_152 h (fun h => ?_)
            refine r_let h (fun x153 h => ?_)
            refine r_iast C (pc := 153) dX9_tries_153 h 3 rfl (ws' := w_X9_tries (xG g) q F c_this_far c_this_named (up this_tried_25 (ix v2_37) x153)) rfl (fun h => ?_)
            refine r_iinc C (pc := 154) dX9_tries_154 1 rfl (by decide) (L' := [(0, .ref (q 35)), (1, .int (jz (v1_25 + 1))), (2, .int (jz v2_37)), (3, .int (jz v3_83)), (4, .int (jz v4_83)), (5, .int (jz v5_83))]) rfl ?_
            refine r_goto C (pc := 157) 25 dX9_tries_157 rfl ?_
            refine r_sub [0, 1] rfl ?_
            exact hn25 (v1_25 + 1) (up this_tried_25 (ix v2_37) x153) h
          · refine r_iconst C (pc := 142) dX9_tries_142 ?_
            exact r_iret C (pc := 143) dX9_tries_143 (hK 0 this_tried_25 (wp_s h) (nB rfl).1)
        · refine r_iinc C (pc := 89) dX9_tries_89 3 rfl (by decide) (L' := [(0, .ref (q 35)), (1, .int (jz v1_25)), (2, .int (jz v2_37)), (3, .int (jz (v3_83 + 1))), (4, .int (jz v4_83)), (5, .int (jz v5_83))]) rfl ?_
          refine r_iload C (pc := 92) dX9_tries_92 4 rfl ?_
          refine r_iload_n C (pc := 94) dX9_tries_94 rfl 3 rfl ?_
          refine r_iconst C (pc := 95) dX9_tries_95 ?_
          refine r_irem C (pc := 96) dX9_tries_96 h (fun h => ?_)
          refine r_iconst C (pc := 97) dX9_tries_97 ?_
          refine jn_e (fun (k107 : Int → Option (Int × (Nat → Int))) => ∀ (s1_107 : Int), wp (k107 s1_107) K → WW g 0 0 (w_X9_tries (xG g) q F c_this_far c_this_named this_tried_25) 107 [(0, .ref (q 35)), (1, .int (jz v1_25)), (2, .int (jz v2_37)), (3, .int (jz (v3_83 + 1))), (5, .int (jz v5_83))] [.int (jz s1_107), .int (jz v4_83)]) h (fun s1_107 h => ?_) (fun k107 hk107 h => ?_)
          · refine r_aload_n C (pc := 107) dX9_tries_107 rfl 0 rfl ?_
            refine r_iload C (pc := 108) dX9_tries_108 4 rfl ?_
            refine r_aload_n C (pc := 110) dX9_tries_110 rfl 0 rfl ?_
            refine r_get C (pc := 111) dX9_tries_111 gf_X9_tries_74 0 rfl rfl ?_
            refine r_iload C (pc := 114) dX9_tries_114 4 rfl ?_
            refine r_iald C (pc := 116) dX9_tries_116 h 2 rfl (fun h => ?_)
            obtain ⟨r117, e117, h⟩ := wp_b1 h
            refine b_cVi C (pc := 117) dX9_tries_117 (c_X9_d (xl g) (xG g) q F c_this_far v5_83 (c_this_named (ix v5_83)) r117 e117) rfl gX9_tries_X9_d ⟨rfl, rfl⟩ 2 hd_X9_d ⟨Nat.le_of_ble_eq_true rfl, Nat.le_of_ble_eq_true rfl⟩ rfl 0 rfl rfl rfl [0, 1] rfl (srt_nd 0 rfl) (ws' := w_X9_tries (xG g) q F c_this_far c_this_named this_tried_25) (Put.m rfl rfl rfl) rfl (rest := [.int (jz s1_107), .int (jz v4_83)]) rfl (Nat.le_of_ble_eq_true rfl) ⟨Nat.zero_le _, Nat.zero_le _⟩ ?_
            refine r_imul C (pc := 120) dX9_tries_120 ?_
            refine r_iadd C (pc := 121) dX9_tries_121 ?_
            refine r_let h (fun x122 h => ?_)
            refine r_istore C (pc := 122) dX9_tries_122 (by decide) (L' := [(0, .ref (q 35)), (1, .int (jz v1_25)), (2, .int (jz v2_37)), (3, .int (jz (v3_83 + 1))), (4, .int (jz x122)), (5, .int (jz v5_83))]) rfl ?_
            refine r_aload_n C (pc := 124) dX9_tries_124 rfl 0 rfl ?_
            refine r_get C (pc := 125) dX9_tries_125 gf_X9_tries_74 0 rfl rfl ?_
            refine r_iload C (pc := 128) dX9_tries_128 5 rfl ?_
            refine r_iald C (pc := 130) dX9_tries_130 h 2 rfl (fun h => ?_)
            refine r_let h (fun x131 h => ?_)
            refine r_istore C (pc := 131) dX9_tries_131 (by decide) (L' := [(0, .ref (q 35)), (1, .int (jz v1_25)), (2, .int (jz v2_37)), (3, .int (jz (v3_83 + 1))), (4, .int (jz x122)), (5, .int (jz x131))]) rfl ?_
            refine r_goto C (pc := 133) 83 dX9_tries_133 rfl ?_
            exact hn83 (v3_83 + 1) x122 x131 h
          · refine r_icmp_ne C (pc := 98) 105 dX9_tries_98 rfl h (fun c98 h => ?_) (fun c98 h => ?_)
            · refine r_bipush C (pc := 105) dX9_tries_105 rfl ?_
              refine r_sub [0, 1, 2, 3, 5] rfl ?_
              exact hk107 (-2) h
            · refine r_iconst C (pc := 101) dX9_tries_101 ?_
              refine r_goto C (pc := 102) 107 dX9_tries_102 rfl ?_
              refine r_sub [0, 1, 2, 3, 5] rfl ?_
              exact hk107 2 h
      · refine r_aload_n C (pc := 45) dX9_tries_45 rfl 0 rfl ?_
        refine r_get C (pc := 46) dX9_tries_46 gf_X9_tries_74 0 rfl rfl ?_
        refine r_iload_n C (pc := 49) dX9_tries_49 rfl 2 rfl ?_
        refine r_iald C (pc := 50) dX9_tries_50 h 2 rfl (fun h => ?_)
        refine r_let h (fun x51 h => ?_)
        refine r_istore_n C (pc := 51) dX9_tries_51 rfl (by decide) (L' := [(0, .ref (q 35)), (1, .int (jz v1_25)), (2, .int (jz x51)), (3, .int (jz v3_37))]) rfl ?_
        refine r_iinc C (pc := 52) dX9_tries_52 3 rfl (by decide) (L' := [(0, .ref (q 35)), (1, .int (jz v1_25)), (2, .int (jz x51)), (3, .int (jz (v3_37 + 1)))]) rfl ?_
        refine r_goto C (pc := 55) 37 dX9_tries_55 rfl ?_
        exact hn37 x51 (v3_37 + 1) h
  · refine r_aload_n C (pc := 10) dX9_tries_10 rfl 0 rfl ?_
    refine r_get C (pc := 11) dX9_tries_11 gf_X9_tries_77 0 rfl rfl ?_
    refine r_iload_n C (pc := 14) dX9_tries_14 rfl 1 rfl ?_
    refine r_iconst C (pc := 15) dX9_tries_15 ?_
    refine r_iast C (pc := 16) dX9_tries_16 h 3 rfl (ws' := w_X9_tries (xG g) q F c_this_far c_this_named (up this_tried_2 (ix v1_2) (-1))) rfl (fun h => ?_)
    refine r_iinc C (pc := 17) dX9_tries_17 1 rfl (by decide) (L' := [(0, .ref (q 35)), (1, .int (jz (v1_2 + 1)))]) rfl ?_
    refine r_goto C (pc := 20) 2 dX9_tries_20 rfl ?_
    exact hn2 (v1_2 + 1) (up this_tried_2 (ix v1_2) (-1)) h
theorem c_X9_tries (l : Launch) (G : gG) (q : Nat → Nat) (F : Nat → Int) (c_this_far : Nat → Int) (c_this_named : Nat → Int) (c_this_tried : Nat → Int) (r : Int) (o0 : Nat → Int) (hf : f_X9_tries (F 0) c_this_far c_this_named c_this_tried = some (r, o0)) : CTi l yX9_tries wsX9_tries rm_X9_tries G (w_X9_tries G q F c_this_far c_this_named c_this_tried) [.ref (q 35)] (jz r) (w_X9_tries G q F c_this_far c_this_named o0) := CTi_of (by decide) rfl rfl (Nat.le_of_ble_eq_true rfl) (fun g C hG hl hF => by
    subst hG
    subst hl
    exact k_X9_tries C q F c_this_far c_this_named c_this_tried (fun x => x = (r, o0)) (fun r' o0' e => by cases e; exact hF) ⟨_, hf, rfl⟩)

-- TightHullsModel.compared(I)I
def f_X9_compared (p1 : Int) (m_points : Int) (c_this_corner : Nat → Int) (c_this_tried : Nat → Int) : Option Int := lq1 (fun (n2 : Int → Option Int) (v2_2 : Int) => if ltI v2_2 m_points = true then (grd (iin ((5 * p1) + v2_2) 2000) (grd (iin v2_2 6) (if eqI (c_this_corner (ix ((5 * p1) + v2_2))) (c_this_tried (ix v2_2)) = true then (n2 (v2_2 + 1)) else (grd (iin ((5 * p1) + v2_2) 2000) (grd (iin v2_2 6) (some ((c_this_corner (ix ((5 * p1) + v2_2))) - (c_this_tried (ix v2_2))))))))) else (some 0)) 300 0
abbrev rm_X9_compared : Room := { frames := 0, cells := 0, slots := 0, locals := 0 }
abbrev w_X9_compared (G : gG) (q : Nat → Nat) (F : Nat → Int) (c_this_corner : Nat → Int) (c_this_tried : Nat → Int) : va_W := [((q 35), oX9 F q), ((q 24), aI G 2000 c_this_corner), ((q 26), aI G 6 c_this_tried)]
theorem hd_X9_compared : yX9_compared.cls = RX9 ∧ yX9_compared.cls ≠ "java/lang/invoke/MethodHandle" ∧ yX9_compared.cls ≠ "java/lang/invoke/VarHandle" ∧ (parseMethodDescriptor yX9_compared.desc).map (fun d => d.parameters.length) = some 1 := by decide +kernel
theorem in_X9_compared_X9 : ∀ w ∈ u_ws RX9 TX9 35, w ∈ wsX9_compared := fun w h => List.mem_cons_of_mem _ (List.mem_append_right _ (h))
theorem gf_X9_compared_9 : GF wsX9_compared RX9 9 8 0 := ⟨RX9, TX9, 35, rfl, in_X9_compared_X9, by decide, List.mem_of_getElem? (i := 1) rfl⟩
theorem gf_X9_compared_71 : GF wsX9_compared RX9 71 8 24 := ⟨RX9, TX9, 35, rfl, in_X9_compared_X9, by decide, List.mem_of_getElem? (i := 2) rfl⟩
theorem gf_X9_compared_77 : GF wsX9_compared RX9 77 8 26 := ⟨RX9, TX9, 35, rfl, in_X9_compared_X9, by decide, List.mem_of_getElem? (i := 3) rfl⟩
set_option maxRecDepth 100000 in
set_option maxHeartbeats 4000000 in
theorem k_X9_compared {g : XC} (C : XOk g cX9_compared RX9 wsX9_compared rm_X9_compared 3) (q : Nat → Nat) (F : Nat → Int) (c_this_corner : Nat → Int) (c_this_tried : Nat → Int) (p1 : Int) (K : Int → Prop) (hK : ∀ (r : Int), K r → (narrow .int (.int (jz r)) = .int (jz r) → FinI g 0 0 (w_X9_compared (xG g) q F c_this_corner c_this_tried) (jz r))) (h : wp (f_X9_compared p1 (F 0) c_this_corner c_this_tried) K) : WW g 0 0 (w_X9_compared (xG g) q F c_this_corner c_this_tried) 0 [(0, .ref (q 35)), (1, .int (jz p1))] [] := by
  unfold f_X9_compared at h
  refine r_iconst C (pc := 0) dX9_compared_0 ?_
  refine r_istore_n C (pc := 1) dX9_compared_1 rfl (by decide) (L' := [(0, .ref (q 35)), (1, .int (jz p1)), (2, .int (jz 0))]) rfl ?_
  refine lq1_e (fun (v2_2 : Int) => WW g 0 0 (w_X9_compared (xG g) q F c_this_corner c_this_tried) 2 [(0, .ref (q 35)), (1, .int (jz p1)), (2, .int (jz v2_2))] []) h (fun n2 hn2 v2_2 h => ?_)
  refine r_iload_n C (pc := 2) dX9_compared_2 rfl 2 rfl ?_
  refine r_aload_n C (pc := 3) dX9_compared_3 rfl 0 rfl ?_
  refine r_get C (pc := 4) dX9_compared_4 gf_X9_compared_9 0 rfl rfl ?_
  refine r_icmp_ge C (pc := 7) 53 dX9_compared_7 rfl h (fun c7 h => ?_) (fun c7 h => ?_)
  · refine r_iconst C (pc := 53) dX9_compared_53 ?_
    exact r_iret C (pc := 54) dX9_compared_54 (hK 0 (wp_s h) rfl)
  · refine r_aload_n C (pc := 10) dX9_compared_10 rfl 0 rfl ?_
    refine r_get C (pc := 11) dX9_compared_11 gf_X9_compared_71 0 rfl rfl ?_
    refine r_iconst C (pc := 14) dX9_compared_14 ?_
    refine r_iload_n C (pc := 15) dX9_compared_15 rfl 1 rfl ?_
    refine r_imul C (pc := 16) dX9_compared_16 ?_
    refine r_iload_n C (pc := 17) dX9_compared_17 rfl 2 rfl ?_
    refine r_iadd C (pc := 18) dX9_compared_18 ?_
    refine r_iald C (pc := 19) dX9_compared_19 h 1 rfl (fun h => ?_)
    refine r_aload_n C (pc := 20) dX9_compared_20 rfl 0 rfl ?_
    refine r_get C (pc := 21) dX9_compared_21 gf_X9_compared_77 0 rfl rfl ?_
    refine r_iload_n C (pc := 24) dX9_compared_24 rfl 2 rfl ?_
    refine r_iald C (pc := 25) dX9_compared_25 h 2 rfl (fun h => ?_)
    refine r_icmp_eq C (pc := 26) 47 dX9_compared_26 rfl h (fun c26 h => ?_) (fun c26 h => ?_)
    · refine r_iinc C (pc := 47) dX9_compared_47 2 rfl (by decide) (L' := [(0, .ref (q 35)), (1, .int (jz p1)), (2, .int (jz (v2_2 + 1)))]) rfl ?_
      refine r_goto C (pc := 50) 2 dX9_compared_50 rfl ?_
      exact hn2 (v2_2 + 1) h
    · refine r_aload_n C (pc := 29) dX9_compared_29 rfl 0 rfl ?_
      refine r_get C (pc := 30) dX9_compared_30 gf_X9_compared_71 0 rfl rfl ?_
      refine r_iconst C (pc := 33) dX9_compared_33 ?_
      refine r_iload_n C (pc := 34) dX9_compared_34 rfl 1 rfl ?_
      refine r_imul C (pc := 35) dX9_compared_35 ?_
      refine r_iload_n C (pc := 36) dX9_compared_36 rfl 2 rfl ?_
      refine r_iadd C (pc := 37) dX9_compared_37 ?_
      refine r_iald C (pc := 38) dX9_compared_38 h 1 rfl (fun h => ?_)
      refine r_aload_n C (pc := 39) dX9_compared_39 rfl 0 rfl ?_
      refine r_get C (pc := 40) dX9_compared_40 gf_X9_compared_77 0 rfl rfl ?_
      refine r_iload_n C (pc := 43) dX9_compared_43 rfl 2 rfl ?_
      refine r_iald C (pc := 44) dX9_compared_44 h 2 rfl (fun h => ?_)
      refine r_isub C (pc := 45) dX9_compared_45 ?_
      exact r_iret C (pc := 46) dX9_compared_46 (hK ((c_this_corner (ix ((5 * p1) + v2_2))) - (c_this_tried (ix v2_2))) (wp_s h) rfl)
theorem c_X9_compared (l : Launch) (G : gG) (q : Nat → Nat) (F : Nat → Int) (c_this_corner : Nat → Int) (c_this_tried : Nat → Int) (p1 : Int) (r : Int) (hf : f_X9_compared p1 (F 0) c_this_corner c_this_tried = some r) : CTi l yX9_compared wsX9_compared rm_X9_compared G (w_X9_compared G q F c_this_corner c_this_tried) [.ref (q 35), .int (jz p1)] (jz r) (w_X9_compared G q F c_this_corner c_this_tried) := CTi_of (by decide) rfl rfl (Nat.le_of_ble_eq_true rfl) (fun g C hG hl hF => by
    subst hG
    subst hl
    exact k_X9_compared C q F c_this_corner c_this_tried p1 (fun x => x = r) (fun r' e => by cases e; exact hF) ⟨_, hf, rfl⟩)

-- TightHullsModel.cornerComes()V
def f_X9_cornerComes (m_points : Int) (m_corners : Int) (c_this_corner : Nat → Int) (c_this_tried : Nat → Int) : Option (Int × (Nat → Int)) := lq1 (fun (n2 : Int → Option (Int × (Nat → Int))) (v1_2 : Int) => jn (jn (lv (((5 * m_corners) - 1)) (fun x49 => lq2 (fun (n50 : Int → (Nat → Int) → Option (Int × (Nat → Int))) (v2_50 : Int) (this_corner_50 : Nat → Int) => if ltI v2_50 (5 * v1_2) = true then (lq2 (fun (n79 : Int → (Nat → Int) → Option (Int × (Nat → Int))) (v2_79 : Int) (this_corner_79 : Nat → Int) => if ltI v2_79 m_points = true then (grd (iin v2_79 6) (lv ((c_this_tried (ix v2_79))) (fun x102 => grd (iin ((5 * v1_2) + v2_79) 2000) (n79 (v2_79 + 1) (up this_corner_79 (ix ((5 * v1_2) + v2_79)) x102))))) else (lv ((m_corners + 1)) (fun x116 => some (x116, this_corner_79)))) 300 0 this_corner_50) else (grd (iin v2_50 2000) (lv ((this_corner_50 (ix v2_50))) (fun x70 => grd (iin (v2_50 + 5) 2000) (n50 (v2_50 + (-1)) (up this_corner_50 (ix (v2_50 + 5)) x70)))))) 300 x49 c_this_corner)) (fun (k41 : Option (Int × (Nat → Int))) => if ltI v1_2 m_corners = true then (bd1 (f_X9_compared v1_2 m_points c_this_corner c_this_tried) (fun r34 => if eqI r34 0 = true then (some (m_corners, c_this_corner)) else k41)) else k41)) (fun (k24 : Option (Int × (Nat → Int))) => if ltI v1_2 m_corners = true then (bd1 (f_X9_compared v1_2 m_points c_this_corner c_this_tried) (fun r12 => if ltI r12 0 = true then (n2 (v1_2 + 1)) else k24)) else k24)) 300 0
abbrev rm_X9_cornerComes : Room := { frames := 1, cells := 0, slots := 0, locals := 22 }
abbrev w_X9_cornerComes (G : gG) (q : Nat → Nat) (F : Nat → Int) (c_this_corner : Nat → Int) (c_this_tried : Nat → Int) : va_W := [((q 35), oX9 F q), ((q 24), aI G 2000 c_this_corner), ((q 26), aI G 6 c_this_tried)]
theorem hd_X9_cornerComes : yX9_cornerComes.cls = RX9 ∧ yX9_cornerComes.cls ≠ "java/lang/invoke/MethodHandle" ∧ yX9_cornerComes.cls ≠ "java/lang/invoke/VarHandle" ∧ (parseMethodDescriptor yX9_cornerComes.desc).map (fun d => d.parameters.length) = some 0 := by decide +kernel
theorem in_X9_cornerComes_X9 : ∀ w ∈ u_ws RX9 TX9 35, w ∈ wsX9_cornerComes := fun w h => List.mem_cons_of_mem _ (List.mem_append_right _ (h))
theorem gf_X9_cornerComes_130 : GF wsX9_cornerComes RX9 130 8 23 := ⟨RX9, TX9, 35, rfl, in_X9_cornerComes_X9, by decide, List.mem_of_getElem? (i := 1) rfl⟩
theorem gf_X9_cornerComes_9 : GF wsX9_cornerComes RX9 9 8 0 := ⟨RX9, TX9, 35, rfl, in_X9_cornerComes_X9, by decide, List.mem_of_getElem? (i := 3) rfl⟩
theorem pf_X9_cornerComes_130 : PF wsX9_cornerComes RX9 130 8 23 .int false := ⟨RX9, TX9, 35, tyX9, rfl, in_X9_cornerComes_X9, tyX9_ok, nmX9, by decide, List.mem_of_getElem? (i := 1) rfl, rfl, rfl, rfl⟩
theorem gf_X9_cornerComes_71 : GF wsX9_cornerComes RX9 71 8 24 := ⟨RX9, TX9, 35, rfl, in_X9_cornerComes_X9, by decide, List.mem_of_getElem? (i := 2) rfl⟩
theorem gf_X9_cornerComes_77 : GF wsX9_cornerComes RX9 77 8 26 := ⟨RX9, TX9, 35, rfl, in_X9_cornerComes_X9, by decide, List.mem_of_getElem? (i := 4) rfl⟩
set_option maxRecDepth 100000 in
set_option maxHeartbeats 4000000 in
theorem k_X9_cornerComes {g : XC} (C : XOk g cX9_cornerComes RX9 wsX9_cornerComes rm_X9_cornerComes 3) (q : Nat → Nat) (F : Nat → Int) (c_this_corner : Nat → Int) (c_this_tried : Nat → Int)  (K : (Int × (Nat → Int)) → Prop) (hK : ∀ (o0 : Int) (o1 : Nat → Int), K (o0, o1) → FinV g 0 0 (w_X9_cornerComes (xG g) q (up F 23 o0) o1 c_this_tried)) (h : wp (f_X9_cornerComes (F 0) (F 23) c_this_corner c_this_tried) K) : WW g 0 0 (w_X9_cornerComes (xG g) q F c_this_corner c_this_tried) 0 [(0, .ref (q 35))] [] := by
  unfold f_X9_cornerComes at h
  refine r_iconst C (pc := 0) dX9_cornerComes_0 ?_
  refine r_istore_n C (pc := 1) dX9_cornerComes_1 rfl (by decide) (L' := [(0, .ref (q 35)), (1, .int (jz 0))]) rfl ?_
  refine lq1_e (fun (v1_2 : Int) => WW g 0 0 (w_X9_cornerComes (xG g) q F c_this_corner c_this_tried) 2 [(0, .ref (q 35)), (1, .int (jz v1_2))] []) h (fun n2 hn2 v1_2 h => ?_)
  refine r_iload_n C (pc := 2) dX9_cornerComes_2 rfl 1 rfl ?_
  refine r_aload_n C (pc := 3) dX9_cornerComes_3 rfl 0 rfl ?_
  refine r_get C (pc := 4) dX9_cornerComes_4 gf_X9_cornerComes_130 0 rfl rfl ?_
  refine jn_e (fun (k24 : Option (Int × (Nat → Int))) => wp (k24) K → WW g 0 0 (w_X9_cornerComes (xG g) q F c_this_corner c_this_tried) 24 [(0, .ref (q 35)), (1, .int (jz v1_2))] []) h (fun h => ?_) (fun k24 hk24 h => ?_)
  · refine r_iload_n C (pc := 24) dX9_cornerComes_24 rfl 1 rfl ?_
    refine r_aload_n C (pc := 25) dX9_cornerComes_25 rfl 0 rfl ?_
    refine r_get C (pc := 26) dX9_cornerComes_26 gf_X9_cornerComes_130 0 rfl rfl ?_
    refine jn_e (fun (k41 : Option (Int × (Nat → Int))) => wp (k41) K → WW g 0 0 (w_X9_cornerComes (xG g) q F c_this_corner c_this_tried) 41 [(0, .ref (q 35)), (1, .int (jz v1_2))] []) h (fun h => ?_) (fun k41 hk41 h => ?_)
    · refine r_iconst C (pc := 41) dX9_cornerComes_41 ?_
      refine r_aload_n C (pc := 42) dX9_cornerComes_42 rfl 0 rfl ?_
      refine r_get C (pc := 43) dX9_cornerComes_43 gf_X9_cornerComes_130 0 rfl rfl ?_
      refine r_imul C (pc := 46) dX9_cornerComes_46 ?_
      refine r_iconst C (pc := 47) dX9_cornerComes_47 ?_
      refine r_isub C (pc := 48) dX9_cornerComes_48 ?_
      refine r_let h (fun x49 h => ?_)
      refine r_istore_n C (pc := 49) dX9_cornerComes_49 rfl (by decide) (L' := [(0, .ref (q 35)), (1, .int (jz v1_2)), (2, .int (jz x49))]) rfl ?_
      refine lq2_e (fun (v2_50 : Int) (this_corner_50 : Nat → Int) => WW g 0 0 (w_X9_cornerComes (xG g) q F this_corner_50 c_this_tried) 50 [(0, .ref (q 35)), (1, .int (jz v1_2)), (2, .int (jz v2_50))] []) h (fun n50 hn50 v2_50 this_corner_50 h => ?_)
      refine r_iload_n C (pc := 50) dX9_cornerComes_50 rfl 2 rfl ?_
      refine r_iconst C (pc := 51) dX9_cornerComes_51 ?_
      refine r_iload_n C (pc := 52) dX9_cornerComes_52 rfl 1 rfl ?_
      refine r_imul C (pc := 53) dX9_cornerComes_53 ?_
      refine r_icmp_lt C (pc := 54) 77 dX9_cornerComes_54 rfl h (fun c54 h => ?_) (fun c54 h => ?_)
      · refine r_iconst C (pc := 77) dX9_cornerComes_77 ?_
        refine r_istore_n C (pc := 78) dX9_cornerComes_78 rfl (by decide) (L' := [(0, .ref (q 35)), (1, .int (jz v1_2)), (2, .int (jz 0))]) rfl ?_
        refine lq2_e (fun (v2_79 : Int) (this_corner_79 : Nat → Int) => WW g 0 0 (w_X9_cornerComes (xG g) q F this_corner_79 c_this_tried) 79 [(0, .ref (q 35)), (1, .int (jz v1_2)), (2, .int (jz v2_79))] []) h (fun n79 hn79 v2_79 this_corner_79 h => ?_)
        refine r_iload_n C (pc := 79) dX9_cornerComes_79 rfl 2 rfl ?_
        refine r_aload_n C (pc := 80) dX9_cornerComes_80 rfl 0 rfl ?_
        refine r_get C (pc := 81) dX9_cornerComes_81 gf_X9_cornerComes_9 0 rfl rfl ?_
        refine r_icmp_ge C (pc := 84) 109 dX9_cornerComes_84 rfl h (fun c84 h => ?_) (fun c84 h => ?_)
        · refine r_aload_n C (pc := 109) dX9_cornerComes_109 rfl 0 rfl ?_
          refine r_dup C (pc := 110) dX9_cornerComes_110 rfl ?_
          refine r_get C (pc := 111) dX9_cornerComes_111 gf_X9_cornerComes_130 0 rfl rfl ?_
          refine r_iconst C (pc := 114) dX9_cornerComes_114 ?_
          refine r_iadd C (pc := 115) dX9_cornerComes_115 ?_
          refine r_let h (fun x116 h => ?_)
          refine r_puti C (pc := 116) dX9_cornerComes_116 pf_X9_cornerComes_130 0 rfl (Nat.le_of_ble_eq_true rfl) (ws' := w_X9_cornerComes (xG g) q (up F 23 x116) this_corner_79 c_this_tried) rfl ?_
          exact r_vret C (pc := 119) dX9_cornerComes_119 (hK x116 this_corner_79 (wp_s h))
        · refine r_aload_n C (pc := 87) dX9_cornerComes_87 rfl 0 rfl ?_
          refine r_get C (pc := 88) dX9_cornerComes_88 gf_X9_cornerComes_71 0 rfl rfl ?_
          refine r_iconst C (pc := 91) dX9_cornerComes_91 ?_
          refine r_iload_n C (pc := 92) dX9_cornerComes_92 rfl 1 rfl ?_
          refine r_imul C (pc := 93) dX9_cornerComes_93 ?_
          refine r_iload_n C (pc := 94) dX9_cornerComes_94 rfl 2 rfl ?_
          refine r_iadd C (pc := 95) dX9_cornerComes_95 ?_
          refine r_aload_n C (pc := 96) dX9_cornerComes_96 rfl 0 rfl ?_
          refine r_get C (pc := 97) dX9_cornerComes_97 gf_X9_cornerComes_77 0 rfl rfl ?_
          refine r_iload_n C (pc := 100) dX9_cornerComes_100 rfl 2 rfl ?_
          refine r_iald C (pc := 101) dX9_cornerComes_101 h 2 rfl (fun h => ?_)
          refine r_let h (fun x102 h => ?_)
          refine r_iast C (pc := 102) dX9_cornerComes_102 h 1 rfl (ws' := w_X9_cornerComes (xG g) q F (up this_corner_79 (ix ((5 * v1_2) + v2_79)) x102) c_this_tried) rfl (fun h => ?_)
          refine r_iinc C (pc := 103) dX9_cornerComes_103 2 rfl (by decide) (L' := [(0, .ref (q 35)), (1, .int (jz v1_2)), (2, .int (jz (v2_79 + 1)))]) rfl ?_
          refine r_goto C (pc := 106) 79 dX9_cornerComes_106 rfl ?_
          exact hn79 (v2_79 + 1) (up this_corner_79 (ix ((5 * v1_2) + v2_79)) x102) h
      · refine r_aload_n C (pc := 57) dX9_cornerComes_57 rfl 0 rfl ?_
        refine r_get C (pc := 58) dX9_cornerComes_58 gf_X9_cornerComes_71 0 rfl rfl ?_
        refine r_iload_n C (pc := 61) dX9_cornerComes_61 rfl 2 rfl ?_
        refine r_iconst C (pc := 62) dX9_cornerComes_62 ?_
        refine r_iadd C (pc := 63) dX9_cornerComes_63 ?_
        refine r_aload_n C (pc := 64) dX9_cornerComes_64 rfl 0 rfl ?_
        refine r_get C (pc := 65) dX9_cornerComes_65 gf_X9_cornerComes_71 0 rfl rfl ?_
        refine r_iload_n C (pc := 68) dX9_cornerComes_68 rfl 2 rfl ?_
        refine r_iald C (pc := 69) dX9_cornerComes_69 h 1 rfl (fun h => ?_)
        refine r_let h (fun x70 h => ?_)
        refine r_iast C (pc := 70) dX9_cornerComes_70 h 1 rfl (ws' := w_X9_cornerComes (xG g) q F (up this_corner_50 (ix (v2_50 + 5)) x70) c_this_tried) rfl (fun h => ?_)
        refine r_iinc C (pc := 71) dX9_cornerComes_71 2 rfl (by decide) (L' := [(0, .ref (q 35)), (1, .int (jz v1_2)), (2, .int (jz (v2_50 + (-1))))]) rfl ?_
        refine r_goto C (pc := 74) 50 dX9_cornerComes_74 rfl ?_
        exact hn50 (v2_50 + (-1)) (up this_corner_50 (ix (v2_50 + 5)) x70) h
    · refine r_icmp_ge C (pc := 29) 41 dX9_cornerComes_29 rfl h (fun c29 h => ?_) (fun c29 h => ?_)
      · exact hk41 h
      · refine r_aload_n C (pc := 32) dX9_cornerComes_32 rfl 0 rfl ?_
        refine r_iload_n C (pc := 33) dX9_cornerComes_33 rfl 1 rfl ?_
        obtain ⟨r34, e34, h⟩ := wp_b1 h
        refine b_cVi C (pc := 34) dX9_cornerComes_34 (c_X9_compared (xl g) (xG g) q F c_this_corner c_this_tried v1_2 r34 e34) rfl gX9_cornerComes_X9_compared ⟨rfl, rfl⟩ 1 hd_X9_compared ⟨Nat.le_of_ble_eq_true rfl, Nat.le_of_ble_eq_true rfl⟩ rfl 0 rfl rfl rfl [0, 1, 2] rfl (srt_nd 0 rfl) (ws' := w_X9_cornerComes (xG g) q F c_this_corner c_this_tried) (Put.m rfl rfl rfl) rfl (rest := []) rfl (Nat.le_of_ble_eq_true rfl) ⟨Nat.zero_le _, Nat.zero_le _⟩ ?_
        refine r_if_ne C (pc := 37) 41 dX9_cornerComes_37 rfl h (fun c37 h => ?_) (fun c37 h => ?_)
        · exact hk41 h
        · exact r_vret C (pc := 40) dX9_cornerComes_40 (hK (F 23) c_this_corner (wp_s h))
  · refine r_icmp_ge C (pc := 7) 24 dX9_cornerComes_7 rfl h (fun c7 h => ?_) (fun c7 h => ?_)
    · exact hk24 h
    · refine r_aload_n C (pc := 10) dX9_cornerComes_10 rfl 0 rfl ?_
      refine r_iload_n C (pc := 11) dX9_cornerComes_11 rfl 1 rfl ?_
      obtain ⟨r12, e12, h⟩ := wp_b1 h
      refine b_cVi C (pc := 12) dX9_cornerComes_12 (c_X9_compared (xl g) (xG g) q F c_this_corner c_this_tried v1_2 r12 e12) rfl gX9_cornerComes_X9_compared ⟨rfl, rfl⟩ 1 hd_X9_compared ⟨Nat.le_of_ble_eq_true rfl, Nat.le_of_ble_eq_true rfl⟩ rfl 0 rfl rfl rfl [0, 1, 2] rfl (srt_nd 0 rfl) (ws' := w_X9_cornerComes (xG g) q F c_this_corner c_this_tried) (Put.m rfl rfl rfl) rfl (rest := []) rfl (Nat.le_of_ble_eq_true rfl) ⟨Nat.zero_le _, Nat.zero_le _⟩ ?_
      refine r_if_ge C (pc := 15) 24 dX9_cornerComes_15 rfl h (fun c15 h => ?_) (fun c15 h => ?_)
      · exact hk24 h
      · refine r_iinc C (pc := 18) dX9_cornerComes_18 1 rfl (by decide) (L' := [(0, .ref (q 35)), (1, .int (jz (v1_2 + 1)))]) rfl ?_
        refine r_goto C (pc := 21) 2 dX9_cornerComes_21 rfl ?_
        exact hn2 (v1_2 + 1) h
theorem c_X9_cornerComes (l : Launch) (G : gG) (q : Nat → Nat) (F : Nat → Int) (c_this_corner : Nat → Int) (c_this_tried : Nat → Int) (o0 : Int) (o1 : Nat → Int) (hf : f_X9_cornerComes (F 0) (F 23) c_this_corner c_this_tried = some (o0, o1)) : CTv l yX9_cornerComes wsX9_cornerComes rm_X9_cornerComes G (w_X9_cornerComes G q F c_this_corner c_this_tried) [.ref (q 35)] (w_X9_cornerComes G q (up F 23 o0) o1 c_this_tried) := CTv_of (by decide) rfl rfl (Nat.le_of_ble_eq_true rfl) (fun g C hG hl hF => by
    subst hG
    subst hl
    exact k_X9_cornerComes C q F c_this_corner c_this_tried (fun x => x = (o0, o1)) (fun o0' o1' e => by cases e; exact hF) ⟨_, hf, rfl⟩)

-- TightHullsModel.layCorners()V
def f_X9_layCorners (m_points : Int) (m_corners : Int) (c_this_far : Nat → Int) (c_this_corner : Nat → Int) (c_this_named : Nat → Int) (c_this_tried : Nat → Int) : Option (Int × (Nat → Int) × (Nat → Int) × (Nat → Int)) := lq5 (fun (n7 : Int → Int → (Nat → Int) → (Nat → Int) → (Nat → Int) → Option (Int × (Nat → Int) × (Nat → Int) × (Nat → Int))) (v1_7 : Int) (this_corners_7 : Int) (this_corner_7 : Nat → Int) (this_named_7 : Nat → Int) (this_tried_7 : Nat → Int) => bd1 (f_X9_orders m_points) (fun r9 => if ltI v1_7 r9 = true then (lq3 (fun (n19 : Int → Int → (Nat → Int) → Option (Int × (Nat → Int) × (Nat → Int) × (Nat → Int))) (v2_19 : Int) (v3_19 : Int) (this_named_19 : Nat → Int) => if ltI v3_19 m_points = true then (grd (!(eqI m_points 0)) (lv ((remI v2_19 m_points)) (fun x38 => grd (iin v3_19 5) (grd (!(eqI m_points 0)) (lv ((divI v2_19 m_points)) (fun x45 => n19 x45 (v3_19 + 1) (up this_named_19 (ix v3_19) x38))))))) else (bd2 (f_X9_tries m_points c_this_far this_named_19 this_tried_7) (fun r53 this_tried_53 => jn (fun (this_corners_63 : Int) (this_corner_63 : Nat → Int) => n7 (v1_7 + 1) this_corners_63 this_corner_63 this_named_19 this_tried_53) (fun (k63 : Int → (Nat → Int) → Option (Int × (Nat → Int) × (Nat → Int) × (Nat → Int))) => if eqI r53 0 = true then (k63 this_corners_7 this_corner_7) else (bd2 (f_X9_cornerComes m_points this_corners_7 this_corner_7 this_tried_53) (fun this_corners_60 this_corner_60 => k63 this_corners_60 this_corner_60)))))) 3300 v1_7 0 this_named_7) else (some (this_corners_7, this_corner_7, this_named_7, this_tried_7)))) 3300 0 0 c_this_corner c_this_named c_this_tried
abbrev rm_X9_layCorners : Room := { frames := 3, cells := 0, slots := 0, locals := 71 }
abbrev w_X9_layCorners (G : gG) (q : Nat → Nat) (F : Nat → Int) (c_this_far : Nat → Int) (c_this_corner : Nat → Int) (c_this_named : Nat → Int) (c_this_tried : Nat → Int) : va_W := [((q 35), oX9 F q), ((q 1), aI G 25 c_this_far), ((q 24), aI G 2000 c_this_corner), ((q 25), aI G 5 c_this_named), ((q 26), aI G 6 c_this_tried)]
theorem hd_X9_layCorners : yX9_layCorners.cls = RX9 ∧ yX9_layCorners.cls ≠ "java/lang/invoke/MethodHandle" ∧ yX9_layCorners.cls ≠ "java/lang/invoke/VarHandle" ∧ (parseMethodDescriptor yX9_layCorners.desc).map (fun d => d.parameters.length) = some 0 := by decide +kernel
theorem in_X9_layCorners_X9 : ∀ w ∈ u_ws RX9 TX9 35, w ∈ wsX9_layCorners := fun w h => List.mem_cons_of_mem _ (List.mem_append_right _ (h))
theorem pf_X9_layCorners_130 : PF wsX9_layCorners RX9 130 8 23 .int false := ⟨RX9, TX9, 35, tyX9, rfl, in_X9_layCorners_X9, tyX9_ok, nmX9, by decide, List.mem_of_getElem? (i := 1) rfl, rfl, rfl, rfl⟩
theorem gf_X9_layCorners_9 : GF wsX9_layCorners RX9 9 8 0 := ⟨RX9, TX9, 35, rfl, in_X9_layCorners_X9, by decide, List.mem_of_getElem? (i := 2) rfl⟩
theorem gf_X9_layCorners_74 : GF wsX9_layCorners RX9 74 8 25 := ⟨RX9, TX9, 35, rfl, in_X9_layCorners_X9, by decide, List.mem_of_getElem? (i := 3) rfl⟩
set_option maxRecDepth 100000 in
set_option maxHeartbeats 4000000 in
theorem k_X9_layCorners {g : XC} (C : XOk g cX9_layCorners RX9 wsX9_layCorners rm_X9_layCorners 4) (q : Nat → Nat) (F : Nat → Int) (c_this_far : Nat → Int) (c_this_corner : Nat → Int) (c_this_named : Nat → Int) (c_this_tried : Nat → Int)  (K : (Int × (Nat → Int) × (Nat → Int) × (Nat → Int)) → Prop) (hK : ∀ (o0 : Int) (o1 : Nat → Int) (o2 : Nat → Int) (o3 : Nat → Int), K (o0, o1, o2, o3) → FinV g 0 0 (w_X9_layCorners (xG g) q (up F 23 o0) c_this_far o1 o2 o3)) (h : wp (f_X9_layCorners (F 0) (F 23) c_this_far c_this_corner c_this_named c_this_tried) K) : WW g 0 0 (w_X9_layCorners (xG g) q F c_this_far c_this_corner c_this_named c_this_tried) 0 [(0, .ref (q 35))] [] := by
  unfold f_X9_layCorners at h
  refine r_aload_n C (pc := 0) dX9_layCorners_0 rfl 0 rfl ?_
  refine r_iconst C (pc := 1) dX9_layCorners_1 ?_
  refine r_puti C (pc := 2) dX9_layCorners_2 pf_X9_layCorners_130 0 rfl (Nat.le_of_ble_eq_true rfl) (ws' := w_X9_layCorners (xG g) q (up F 23 0) c_this_far c_this_corner c_this_named c_this_tried) rfl ?_
  refine r_iconst C (pc := 5) dX9_layCorners_5 ?_
  refine r_istore_n C (pc := 6) dX9_layCorners_6 rfl (by decide) (L' := [(0, .ref (q 35)), (1, .int (jz 0))]) rfl ?_
  refine lq5_e (fun (v1_7 : Int) (this_corners_7 : Int) (this_corner_7 : Nat → Int) (this_named_7 : Nat → Int) (this_tried_7 : Nat → Int) => WW g 0 0 (w_X9_layCorners (xG g) q (up F 23 this_corners_7) c_this_far this_corner_7 this_named_7 this_tried_7) 7 [(0, .ref (q 35)), (1, .int (jz v1_7))] []) h (fun n7 hn7 v1_7 this_corners_7 this_corner_7 this_named_7 this_tried_7 h => ?_)
  refine r_iload_n C (pc := 7) dX9_layCorners_7 rfl 1 rfl ?_
  refine r_aload_n C (pc := 8) dX9_layCorners_8 rfl 0 rfl ?_
  obtain ⟨r9, e9, h⟩ := wp_b1 h
  refine b_cVi C (pc := 9) dX9_layCorners_9 (c_X9_orders (xl g) (xG g) q (up F 23 this_corners_7) r9 e9) rfl gX9_layCorners_X9_orders ⟨rfl, rfl⟩ 0 hd_X9_orders ⟨Nat.le_of_ble_eq_true rfl, Nat.le_of_ble_eq_true rfl⟩ rfl 0 rfl rfl rfl [0] rfl (srt_nd 0 rfl) (ws' := w_X9_layCorners (xG g) q (up F 23 this_corners_7) c_this_far this_corner_7 this_named_7 this_tried_7) (Put.m rfl rfl rfl) rfl (rest := [.int (jz v1_7)]) rfl (Nat.le_of_ble_eq_true rfl) ⟨Nat.zero_le _, Nat.zero_le _⟩ ?_
  refine r_icmp_ge C (pc := 12) 69 dX9_layCorners_12 rfl h (fun c12 h => ?_) (fun c12 h => ?_)
  · exact r_vret C (pc := 69) dX9_layCorners_69 (hK this_corners_7 this_corner_7 this_named_7 this_tried_7 (wp_s h))
  · refine r_iload_n C (pc := 15) dX9_layCorners_15 rfl 1 rfl ?_
    refine r_istore_n C (pc := 16) dX9_layCorners_16 rfl (by decide) (L' := [(0, .ref (q 35)), (1, .int (jz v1_7)), (2, .int (jz v1_7))]) rfl ?_
    refine r_iconst C (pc := 17) dX9_layCorners_17 ?_
    refine r_istore_n C (pc := 18) dX9_layCorners_18 rfl (by decide) (L' := [(0, .ref (q 35)), (1, .int (jz v1_7)), (2, .int (jz v1_7)), (3, .int (jz 0))]) rfl ?_
    refine lq3_e (fun (v2_19 : Int) (v3_19 : Int) (this_named_19 : Nat → Int) => WW g 0 0 (w_X9_layCorners (xG g) q (up F 23 this_corners_7) c_this_far this_corner_7 this_named_19 this_tried_7) 19 [(0, .ref (q 35)), (1, .int (jz v1_7)), (2, .int (jz v2_19)), (3, .int (jz v3_19))] []) h (fun n19 hn19 v2_19 v3_19 this_named_19 h => ?_)
    refine r_iload_n C (pc := 19) dX9_layCorners_19 rfl 3 rfl ?_
    refine r_aload_n C (pc := 20) dX9_layCorners_20 rfl 0 rfl ?_
    refine r_get C (pc := 21) dX9_layCorners_21 gf_X9_layCorners_9 0 rfl rfl ?_
    refine r_icmp_ge C (pc := 24) 52 dX9_layCorners_24 rfl h (fun c24 h => ?_) (fun c24 h => ?_)
    · refine r_aload_n C (pc := 52) dX9_layCorners_52 rfl 0 rfl ?_
      obtain ⟨r53, this_tried_53, e53, h⟩ := wp_b2 h
      refine b_cVi C (pc := 53) dX9_layCorners_53 (c_X9_tries (xl g) (xG g) q (up F 23 this_corners_7) c_this_far this_named_19 this_tried_7 r53 this_tried_53 e53) rfl gX9_layCorners_X9_tries ⟨rfl, rfl⟩ 0 hd_X9_tries ⟨Nat.le_of_ble_eq_true rfl, Nat.le_of_ble_eq_true rfl⟩ rfl 0 rfl rfl rfl [0, 1, 3, 4] rfl (srt_nd 0 rfl) (ws' := w_X9_layCorners (xG g) q (up F 23 this_corners_7) c_this_far this_corner_7 this_named_19 this_tried_53) (Put.m rfl rfl rfl) rfl (rest := []) rfl (Nat.le_of_ble_eq_true rfl) ⟨Nat.zero_le _, Nat.zero_le _⟩ ?_
      refine jn_e (fun (k63 : Int → (Nat → Int) → Option (Int × (Nat → Int) × (Nat → Int) × (Nat → Int))) => ∀ (this_corners_63 : Int) (this_corner_63 : Nat → Int), wp (k63 this_corners_63 this_corner_63) K → WW g 0 0 (w_X9_layCorners (xG g) q (up F 23 this_corners_63) c_this_far this_corner_63 this_named_19 this_tried_53) 63 [(0, .ref (q 35)), (1, .int (jz v1_7))] []) h (fun this_corners_63 this_corner_63 h => ?_) (fun k63 hk63 h => ?_)
      · refine r_iinc C (pc := 63) dX9_layCorners_63 1 rfl (by decide) (L' := [(0, .ref (q 35)), (1, .int (jz (v1_7 + 1)))]) rfl ?_
        refine r_goto C (pc := 66) 7 dX9_layCorners_66 rfl ?_
        exact hn7 (v1_7 + 1) this_corners_63 this_corner_63 this_named_19 this_tried_53 h
      · refine r_if_eq C (pc := 56) 63 dX9_layCorners_56 rfl h (fun c56 h => ?_) (fun c56 h => ?_)
        · refine r_sub [0, 1] rfl ?_
          exact hk63 this_corners_7 this_corner_7 h
        · refine r_aload_n C (pc := 59) dX9_layCorners_59 rfl 0 rfl ?_
          obtain ⟨this_corners_60, this_corner_60, e60, h⟩ := wp_b2 h
          refine b_cVv C (pc := 60) dX9_layCorners_60 (c_X9_cornerComes (xl g) (xG g) q (up F 23 this_corners_7) this_corner_7 this_tried_53 this_corners_60 this_corner_60 e60) rfl gX9_layCorners_X9_cornerComes ⟨rfl, rfl⟩ 0 hd_X9_cornerComes ⟨Nat.le_of_ble_eq_true rfl, Nat.le_of_ble_eq_true rfl⟩ rfl 0 rfl rfl rfl [0, 2, 4] rfl (srt_nd 0 rfl) (ws' := w_X9_layCorners (xG g) q (up F 23 this_corners_60) c_this_far this_corner_60 this_named_19 this_tried_53) (Put.m rfl rfl rfl) rfl (rest := []) rfl (Nat.le_of_ble_eq_true rfl) ⟨Nat.zero_le _, Nat.zero_le _⟩ ?_
          refine r_sub [0, 1] rfl ?_
          exact hk63 this_corners_60 this_corner_60 h
    · refine r_aload_n C (pc := 27) dX9_layCorners_27 rfl 0 rfl ?_
      refine r_get C (pc := 28) dX9_layCorners_28 gf_X9_layCorners_74 0 rfl rfl ?_
      refine r_iload_n C (pc := 31) dX9_layCorners_31 rfl 3 rfl ?_
      refine r_iload_n C (pc := 32) dX9_layCorners_32 rfl 2 rfl ?_
      refine r_aload_n C (pc := 33) dX9_layCorners_33 rfl 0 rfl ?_
      refine r_get C (pc := 34) dX9_layCorners_34 gf_X9_layCorners_9 0 rfl rfl ?_
      refine r_irem C (pc := 37) dX9_layCorners_37 h (fun h => ?_)
      refine r_let h (fun x38 h => ?_)
      refine r_iast C (pc := 38) dX9_layCorners_38 h 3 rfl (ws' := w_X9_layCorners (xG g) q (up F 23 this_corners_7) c_this_far this_corner_7 (up this_named_19 (ix v3_19) x38) this_tried_7) rfl (fun h => ?_)
      refine r_iload_n C (pc := 39) dX9_layCorners_39 rfl 2 rfl ?_
      refine r_aload_n C (pc := 40) dX9_layCorners_40 rfl 0 rfl ?_
      refine r_get C (pc := 41) dX9_layCorners_41 gf_X9_layCorners_9 0 rfl rfl ?_
      refine r_idiv C (pc := 44) dX9_layCorners_44 h (fun h => ?_)
      refine r_let h (fun x45 h => ?_)
      refine r_istore_n C (pc := 45) dX9_layCorners_45 rfl (by decide) (L' := [(0, .ref (q 35)), (1, .int (jz v1_7)), (2, .int (jz x45)), (3, .int (jz v3_19))]) rfl ?_
      refine r_iinc C (pc := 46) dX9_layCorners_46 3 rfl (by decide) (L' := [(0, .ref (q 35)), (1, .int (jz v1_7)), (2, .int (jz x45)), (3, .int (jz (v3_19 + 1)))]) rfl ?_
      refine r_goto C (pc := 49) 19 dX9_layCorners_49 rfl ?_
      exact hn19 x45 (v3_19 + 1) (up this_named_19 (ix v3_19) x38) h
theorem c_X9_layCorners (l : Launch) (G : gG) (q : Nat → Nat) (F : Nat → Int) (c_this_far : Nat → Int) (c_this_corner : Nat → Int) (c_this_named : Nat → Int) (c_this_tried : Nat → Int) (o0 : Int) (o1 : Nat → Int) (o2 : Nat → Int) (o3 : Nat → Int) (hf : f_X9_layCorners (F 0) (F 23) c_this_far c_this_corner c_this_named c_this_tried = some (o0, o1, o2, o3)) : CTv l yX9_layCorners wsX9_layCorners rm_X9_layCorners G (w_X9_layCorners G q F c_this_far c_this_corner c_this_named c_this_tried) [.ref (q 35)] (w_X9_layCorners G q (up F 23 o0) c_this_far o1 o2 o3) := CTv_of (by decide) rfl rfl (Nat.le_of_ble_eq_true rfl) (fun g C hG hl hF => by
    subst hG
    subst hl
    exact k_X9_layCorners C q F c_this_far c_this_corner c_this_named c_this_tried (fun x => x = (o0, o1, o2, o3)) (fun o0' o1' o2' o3' e => by cases e; exact hF) ⟨_, hf, rfl⟩)

-- TightHullsModel.least(II)I
def f_X9_least (p1 : Int) (p2 : Int) (m_points : Int) (m_corners : Int) (c_this_far : Nat → Int) (c_this_number : Nat → Int) (c_this_corner : Nat → Int) (c_this_named : Nat → Int) (c_this_tried : Nat → Int) : Option (Int × Int × (Nat → Int) × (Nat → Int) × (Nat → Int) × (Nat → Int)) := bd1 (f_X9_in p1 0 1) (fun r3 => if eqI r3 0 = true then (some ((-1), m_corners, c_this_number, c_this_corner, c_this_named, c_this_tried)) else (jn (fun (this_corners_46 : Int) (this_corner_46 : Nat → Int) (this_named_46 : Nat → Int) (this_tried_46 : Nat → Int) => lq3 (fun (n51 : Int → Int → (Nat → Int) → Option (Int × Int × (Nat → Int) × (Nat → Int) × (Nat → Int) × (Nat → Int))) (v3_51 : Int) (v4_51 : Int) (this_number_51 : Nat → Int) => if ltI v4_51 m_points = true then (jn (fun (s0_80 : Int) => lq2 (fun (n85 : Int → Int → Option (Int × Int × (Nat → Int) × (Nat → Int) × (Nat → Int) × (Nat → Int))) (v5_85 : Int) (v6_85 : Int) => jn (grd (iin v4_51 5) (jn (fun (s1_159 : Int) => lv ((v3_51 + s1_159)) (fun x160 => grd (iin v4_51 5) (n51 x160 (v4_51 + 1) (up this_number_51 (ix v4_51) v5_85)))) (fun (k159 : Int → Option (Int × Int × (Nat → Int) × (Nat → Int) × (Nat → Int) × (Nat → Int))) => if eqI v5_85 (this_number_51 (ix v4_51)) = true then (k159 0) else (k159 1)))) (fun (k141 : Option (Int × Int × (Nat → Int) × (Nat → Int) × (Nat → Int) × (Nat → Int))) => if ltI v6_85 m_points = true then (if eqI p1 0 = true then (jn (fun (s0_133 : Int) => n85 s0_133 (v6_85 + 1)) (fun (k133 : Int → Option (Int × Int × (Nat → Int) × (Nat → Int) × (Nat → Int) × (Nat → Int))) => if eqI v6_85 v4_51 = true then (k133 v5_85) else (bd1 (f_X9_d v4_51 v6_85 c_this_far) (fun r118 => grd (iin v6_85 5) (k133 (maxI v5_85 ((2 * r118) - (this_number_51 (ix v6_85))))))))) else k141) else k141)) 300 s0_80 0) (fun (k80 : Int → Option (Int × Int × (Nat → Int) × (Nat → Int) × (Nat → Int) × (Nat → Int))) => if eqI p1 1 = true then (grd (iin ((5 * p2) + v4_51) 2000) (k80 (this_corner_46 (ix ((5 * p2) + v4_51))))) else (k80 0))) else (some (v3_51, this_corners_46, this_number_51, this_corner_46, this_named_46, this_tried_46))) 300 0 0 c_this_number) (fun (k46 : Int → (Nat → Int) → (Nat → Int) → (Nat → Int) → Option (Int × Int × (Nat → Int) × (Nat → Int) × (Nat → Int) × (Nat → Int))) => if eqI p1 1 = true then (bd1 (f_X9_barred m_points c_this_far) (fun r17 => if ltI r17 0 = true then (bd4 (f_X9_layCorners m_points m_corners c_this_far c_this_corner c_this_named c_this_tried) (fun this_corners_27 this_corner_27 this_named_27 this_tried_27 => bd1 (f_X9_in p2 0 (this_corners_27 - 1)) (fun r38 => if eqI r38 0 = true then (some ((-1), this_corners_27, c_this_number, this_corner_27, this_named_27, this_tried_27)) else (k46 this_corners_27 this_corner_27 this_named_27 this_tried_27)))) else (some ((-3), m_corners, c_this_number, c_this_corner, c_this_named, c_this_tried)))) else (k46 m_corners c_this_corner c_this_named c_this_tried))))
abbrev rm_X9_least : Room := { frames := 4, cells := 0, slots := 0, locals := 94 }
abbrev w_X9_least (G : gG) (q : Nat → Nat) (F : Nat → Int) (c_this_far : Nat → Int) (c_this_number : Nat → Int) (c_this_corner : Nat → Int) (c_this_named : Nat → Int) (c_this_tried : Nat → Int) : va_W := [((q 35), oX9 F q), ((q 1), aI G 25 c_this_far), ((q 2), aI G 5 c_this_number), ((q 24), aI G 2000 c_this_corner), ((q 25), aI G 5 c_this_named), ((q 26), aI G 6 c_this_tried)]
theorem hd_X9_least : yX9_least.cls = RX9 ∧ yX9_least.cls ≠ "java/lang/invoke/MethodHandle" ∧ yX9_least.cls ≠ "java/lang/invoke/VarHandle" ∧ (parseMethodDescriptor yX9_least.desc).map (fun d => d.parameters.length) = some 2 := by decide +kernel
theorem in_X9_least_X9 : ∀ w ∈ u_ws RX9 TX9 35, w ∈ wsX9_least := fun w h => List.mem_cons_of_mem _ (List.mem_append_right _ (h))
theorem gf_X9_least_9 : GF wsX9_least RX9 9 8 0 := ⟨RX9, TX9, 35, rfl, in_X9_least_X9, by decide, List.mem_of_getElem? (i := 2) rfl⟩
theorem gf_X9_least_19 : GF wsX9_least RX9 19 8 2 := ⟨RX9, TX9, 35, rfl, in_X9_least_X9, by decide, List.mem_of_getElem? (i := 4) rfl⟩
theorem mm_X9_least_5 : Cond.methodLink RX9 133 Lib.Math.max.name ∈ wsX9_least := List.mem_of_getElem? (i := 5) rfl
theorem mm_X9_least_6 : Cond.static Lib.Math.max.name ∈ wsX9_least := List.mem_of_getElem? (i := 6) rfl
theorem mm_X9_least_7 : Cond.initialized "java/lang/Math" ∈ wsX9_least := List.mem_of_getElem? (i := 7) rfl
theorem mm_X9_least_8 : Cond.code Lib.Math.max.name Lib.Math.max.code 2 (some .int) ∈ wsX9_least := List.mem_of_getElem? (i := 8) rfl
theorem gf_X9_least_71 : GF wsX9_least RX9 71 8 24 := ⟨RX9, TX9, 35, rfl, in_X9_least_X9, by decide, List.mem_of_getElem? (i := 3) rfl⟩
theorem gf_X9_least_130 : GF wsX9_least RX9 130 8 23 := ⟨RX9, TX9, 35, rfl, in_X9_least_X9, by decide, List.mem_of_getElem? (i := 1) rfl⟩
set_option maxRecDepth 100000 in
set_option maxHeartbeats 4000000 in
theorem k_X9_least {g : XC} (C : XOk g cX9_least RX9 wsX9_least rm_X9_least 7) (q : Nat → Nat) (F : Nat → Int) (c_this_far : Nat → Int) (c_this_number : Nat → Int) (c_this_corner : Nat → Int) (c_this_named : Nat → Int) (c_this_tried : Nat → Int) (p1 : Int) (p2 : Int) (K : (Int × Int × (Nat → Int) × (Nat → Int) × (Nat → Int) × (Nat → Int)) → Prop) (hK : ∀ (r : Int) (o0 : Int) (o1 : Nat → Int) (o2 : Nat → Int) (o3 : Nat → Int) (o4 : Nat → Int), K (r, o0, o1, o2, o3, o4) → (narrow .int (.int (jz r)) = .int (jz r) → FinI g 0 0 (w_X9_least (xG g) q (up F 23 o0) c_this_far o1 o2 o3 o4) (jz r))) (h : wp (f_X9_least p1 p2 (F 0) (F 23) c_this_far c_this_number c_this_corner c_this_named c_this_tried) K) : WW g 0 0 (w_X9_least (xG g) q F c_this_far c_this_number c_this_corner c_this_named c_this_tried) 0 [(0, .ref (q 35)), (1, .int (jz p1)), (2, .int (jz p2))] [] := by
  unfold f_X9_least at h
  refine r_iload_n C (pc := 0) dX9_least_0 rfl 1 rfl ?_
  refine r_iconst C (pc := 1) dX9_least_1 ?_
  refine r_iconst C (pc := 2) dX9_least_2 ?_
  obtain ⟨r3, e3, h⟩ := wp_b1 h
  refine b_cSi C (pc := 3) dX9_least_3 (c_X9_in (xl g) (xG g) p1 0 1 r3 e3) rfl gX9_least_X9_in ⟨rfl, rfl⟩ 3 hd_X9_in ⟨Nat.le_of_ble_eq_true rfl, Nat.le_of_ble_eq_true rfl⟩ rfl [] rfl (srt_nd 0 rfl) (ws' := w_X9_least (xG g) q F c_this_far c_this_number c_this_corner c_this_named c_this_tried) (Put.m rfl rfl rfl) rfl (rest := []) rfl (Nat.le_of_ble_eq_true rfl) ⟨Nat.zero_le _, Nat.zero_le _⟩ ?_
  refine r_if_ne C (pc := 6) 11 dX9_least_6 rfl h (fun c6 h => ?_) (fun c6 h => ?_)
  · refine r_iload_n C (pc := 11) dX9_least_11 rfl 1 rfl ?_
    refine r_iconst C (pc := 12) dX9_least_12 ?_
    refine jn_e (fun (k46 : Int → (Nat → Int) → (Nat → Int) → (Nat → Int) → Option (Int × Int × (Nat → Int) × (Nat → Int) × (Nat → Int) × (Nat → Int))) => ∀ (this_corners_46 : Int) (this_corner_46 : Nat → Int) (this_named_46 : Nat → Int) (this_tried_46 : Nat → Int), wp (k46 this_corners_46 this_corner_46 this_named_46 this_tried_46) K → WW g 0 0 (w_X9_least (xG g) q (up F 23 this_corners_46) c_this_far c_this_number this_corner_46 this_named_46 this_tried_46) 46 [(0, .ref (q 35)), (1, .int (jz p1)), (2, .int (jz p2))] []) h (fun this_corners_46 this_corner_46 this_named_46 this_tried_46 h => ?_) (fun k46 hk46 h => ?_)
    · refine r_iconst C (pc := 46) dX9_least_46 ?_
      refine r_istore_n C (pc := 47) dX9_least_47 rfl (by decide) (L' := [(0, .ref (q 35)), (1, .int (jz p1)), (2, .int (jz p2)), (3, .int (jz 0))]) rfl ?_
      refine r_iconst C (pc := 48) dX9_least_48 ?_
      refine r_istore C (pc := 49) dX9_least_49 (by decide) (L' := [(0, .ref (q 35)), (1, .int (jz p1)), (2, .int (jz p2)), (3, .int (jz 0)), (4, .int (jz 0))]) rfl ?_
      refine lq3_e (fun (v3_51 : Int) (v4_51 : Int) (this_number_51 : Nat → Int) => WW g 0 0 (w_X9_least (xG g) q (up F 23 this_corners_46) c_this_far this_number_51 this_corner_46 this_named_46 this_tried_46) 51 [(0, .ref (q 35)), (1, .int (jz p1)), (2, .int (jz p2)), (3, .int (jz v3_51)), (4, .int (jz v4_51))] []) h (fun n51 hn51 v3_51 v4_51 this_number_51 h => ?_)
      refine r_iload C (pc := 51) dX9_least_51 4 rfl ?_
      refine r_aload_n C (pc := 53) dX9_least_53 rfl 0 rfl ?_
      refine r_get C (pc := 54) dX9_least_54 gf_X9_least_9 0 rfl rfl ?_
      refine r_icmp_ge C (pc := 57) 176 dX9_least_57 rfl h (fun c57 h => ?_) (fun c57 h => ?_)
      · refine r_iload_n C (pc := 176) dX9_least_176 rfl 3 rfl ?_
        exact r_iret C (pc := 177) dX9_least_177 (hK v3_51 this_corners_46 this_number_51 this_corner_46 this_named_46 this_tried_46 (wp_s h) rfl)
      · refine r_iload_n C (pc := 60) dX9_least_60 rfl 1 rfl ?_
        refine r_iconst C (pc := 61) dX9_least_61 ?_
        refine jn_e (fun (k80 : Int → Option (Int × Int × (Nat → Int) × (Nat → Int) × (Nat → Int) × (Nat → Int))) => ∀ (s0_80 : Int), wp (k80 s0_80) K → WW g 0 0 (w_X9_least (xG g) q (up F 23 this_corners_46) c_this_far this_number_51 this_corner_46 this_named_46 this_tried_46) 80 [(0, .ref (q 35)), (1, .int (jz p1)), (2, .int (jz p2)), (3, .int (jz v3_51)), (4, .int (jz v4_51))] [.int (jz s0_80)]) h (fun s0_80 h => ?_) (fun k80 hk80 h => ?_)
        · refine r_istore C (pc := 80) dX9_least_80 (by decide) (L' := [(0, .ref (q 35)), (1, .int (jz p1)), (2, .int (jz p2)), (3, .int (jz v3_51)), (4, .int (jz v4_51)), (5, .int (jz s0_80))]) rfl ?_
          refine r_iconst C (pc := 82) dX9_least_82 ?_
          refine r_istore C (pc := 83) dX9_least_83 (by decide) (L' := [(0, .ref (q 35)), (1, .int (jz p1)), (2, .int (jz p2)), (3, .int (jz v3_51)), (4, .int (jz v4_51)), (5, .int (jz s0_80)), (6, .int (jz 0))]) rfl ?_
          refine lq2_e (fun (v5_85 : Int) (v6_85 : Int) => WW g 0 0 (w_X9_least (xG g) q (up F 23 this_corners_46) c_this_far this_number_51 this_corner_46 this_named_46 this_tried_46) 85 [(0, .ref (q 35)), (1, .int (jz p1)), (2, .int (jz p2)), (3, .int (jz v3_51)), (4, .int (jz v4_51)), (5, .int (jz v5_85)), (6, .int (jz v6_85))] []) h (fun n85 hn85 v5_85 v6_85 h => ?_)
          refine r_iload C (pc := 85) dX9_least_85 6 rfl ?_
          refine r_aload_n C (pc := 87) dX9_least_87 rfl 0 rfl ?_
          refine r_get C (pc := 88) dX9_least_88 gf_X9_least_9 0 rfl rfl ?_
          refine jn_e (fun (k141 : Option (Int × Int × (Nat → Int) × (Nat → Int) × (Nat → Int) × (Nat → Int))) => wp (k141) K → WW g 0 0 (w_X9_least (xG g) q (up F 23 this_corners_46) c_this_far this_number_51 this_corner_46 this_named_46 this_tried_46) 141 [(0, .ref (q 35)), (1, .int (jz p1)), (2, .int (jz p2)), (3, .int (jz v3_51)), (4, .int (jz v4_51)), (5, .int (jz v5_85))] []) h (fun h => ?_) (fun k141 hk141 h => ?_)
          · refine r_iload_n C (pc := 141) dX9_least_141 rfl 3 rfl ?_
            refine r_iload C (pc := 142) dX9_least_142 5 rfl ?_
            refine r_aload_n C (pc := 144) dX9_least_144 rfl 0 rfl ?_
            refine r_get C (pc := 145) dX9_least_145 gf_X9_least_19 0 rfl rfl ?_
            refine r_iload C (pc := 148) dX9_least_148 4 rfl ?_
            refine r_iald C (pc := 150) dX9_least_150 h 2 rfl (fun h => ?_)
            refine jn_e (fun (k159 : Int → Option (Int × Int × (Nat → Int) × (Nat → Int) × (Nat → Int) × (Nat → Int))) => ∀ (s1_159 : Int), wp (k159 s1_159) K → WW g 0 0 (w_X9_least (xG g) q (up F 23 this_corners_46) c_this_far this_number_51 this_corner_46 this_named_46 this_tried_46) 159 [(0, .ref (q 35)), (1, .int (jz p1)), (2, .int (jz p2)), (4, .int (jz v4_51)), (5, .int (jz v5_85))] [.int (jz s1_159), .int (jz v3_51)]) h (fun s1_159 h => ?_) (fun k159 hk159 h => ?_)
            · refine r_iadd C (pc := 159) dX9_least_159 ?_
              refine r_let h (fun x160 h => ?_)
              refine r_istore_n C (pc := 160) dX9_least_160 rfl (by decide) (L' := [(0, .ref (q 35)), (1, .int (jz p1)), (2, .int (jz p2)), (3, .int (jz x160)), (4, .int (jz v4_51)), (5, .int (jz v5_85))]) rfl ?_
              refine r_aload_n C (pc := 161) dX9_least_161 rfl 0 rfl ?_
              refine r_get C (pc := 162) dX9_least_162 gf_X9_least_19 0 rfl rfl ?_
              refine r_iload C (pc := 165) dX9_least_165 4 rfl ?_
              refine r_iload C (pc := 167) dX9_least_167 5 rfl ?_
              refine r_iast C (pc := 169) dX9_least_169 h 2 rfl (ws' := w_X9_least (xG g) q (up F 23 this_corners_46) c_this_far (up this_number_51 (ix v4_51) v5_85) this_corner_46 this_named_46 this_tried_46) rfl (fun h => ?_)
              refine r_iinc C (pc := 170) dX9_least_170 4 rfl (by decide) (L' := [(0, .ref (q 35)), (1, .int (jz p1)), (2, .int (jz p2)), (3, .int (jz x160)), (4, .int (jz (v4_51 + 1))), (5, .int (jz v5_85))]) rfl ?_
              refine r_goto C (pc := 173) 51 dX9_least_173 rfl ?_
              refine r_sub [0, 1, 2, 3, 4] rfl ?_
              exact hn51 x160 (v4_51 + 1) (up this_number_51 (ix v4_51) v5_85) h
            · refine r_icmp_eq C (pc := 151) 158 dX9_least_151 rfl h (fun c151 h => ?_) (fun c151 h => ?_)
              · refine r_iconst C (pc := 158) dX9_least_158 ?_
                refine r_sub [0, 1, 2, 4, 5] rfl ?_
                exact hk159 0 h
              · refine r_iconst C (pc := 154) dX9_least_154 ?_
                refine r_goto C (pc := 155) 159 dX9_least_155 rfl ?_
                refine r_sub [0, 1, 2, 4, 5] rfl ?_
                exact hk159 1 h
          · refine r_icmp_ge C (pc := 91) 141 dX9_least_91 rfl h (fun c91 h => ?_) (fun c91 h => ?_)
            · refine r_sub [0, 1, 2, 3, 4, 5] rfl ?_
              exact hk141 h
            · refine r_iload_n C (pc := 94) dX9_least_94 rfl 1 rfl ?_
              refine r_if_ne C (pc := 95) 141 dX9_least_95 rfl h (fun c95 h => ?_) (fun c95 h => ?_)
              · refine r_sub [0, 1, 2, 3, 4, 5] rfl ?_
                exact hk141 h
              · refine r_iload C (pc := 98) dX9_least_98 6 rfl ?_
                refine r_iload C (pc := 100) dX9_least_100 4 rfl ?_
                refine jn_e (fun (k133 : Int → Option (Int × Int × (Nat → Int) × (Nat → Int) × (Nat → Int) × (Nat → Int))) => ∀ (s0_133 : Int), wp (k133 s0_133) K → WW g 0 0 (w_X9_least (xG g) q (up F 23 this_corners_46) c_this_far this_number_51 this_corner_46 this_named_46 this_tried_46) 133 [(0, .ref (q 35)), (1, .int (jz p1)), (2, .int (jz p2)), (3, .int (jz v3_51)), (4, .int (jz v4_51)), (6, .int (jz v6_85))] [.int (jz s0_133)]) h (fun s0_133 h => ?_) (fun k133 hk133 h => ?_)
                · refine r_istore C (pc := 133) dX9_least_133 (by decide) (L' := [(0, .ref (q 35)), (1, .int (jz p1)), (2, .int (jz p2)), (3, .int (jz v3_51)), (4, .int (jz v4_51)), (5, .int (jz s0_133)), (6, .int (jz v6_85))]) rfl ?_
                  refine r_iinc C (pc := 135) dX9_least_135 6 rfl (by decide) (L' := [(0, .ref (q 35)), (1, .int (jz p1)), (2, .int (jz p2)), (3, .int (jz v3_51)), (4, .int (jz v4_51)), (5, .int (jz s0_133)), (6, .int (jz (v6_85 + 1)))]) rfl ?_
                  refine r_goto C (pc := 138) 85 dX9_least_138 rfl ?_
                  exact hn85 s0_133 (v6_85 + 1) h
                · refine r_icmp_ne C (pc := 102) 110 dX9_least_102 rfl h (fun c102 h => ?_) (fun c102 h => ?_)
                  · refine r_iload C (pc := 110) dX9_least_110 5 rfl ?_
                    refine r_iconst C (pc := 112) dX9_least_112 ?_
                    refine r_aload_n C (pc := 113) dX9_least_113 rfl 0 rfl ?_
                    refine r_iload C (pc := 114) dX9_least_114 4 rfl ?_
                    refine r_iload C (pc := 116) dX9_least_116 6 rfl ?_
                    obtain ⟨r118, e118, h⟩ := wp_b1 h
                    refine b_cVi C (pc := 118) dX9_least_118 (c_X9_d (xl g) (xG g) q (up F 23 this_corners_46) c_this_far v4_51 v6_85 r118 e118) rfl gX9_least_X9_d ⟨rfl, rfl⟩ 2 hd_X9_d ⟨Nat.le_of_ble_eq_true rfl, Nat.le_of_ble_eq_true rfl⟩ rfl 0 rfl rfl rfl [0, 1] rfl (srt_nd 0 rfl) (ws' := w_X9_least (xG g) q (up F 23 this_corners_46) c_this_far this_number_51 this_corner_46 this_named_46 this_tried_46) (Put.m rfl rfl rfl) rfl (rest := [.int (jz 2), .int (jz v5_85)]) rfl (Nat.le_of_ble_eq_true rfl) ⟨Nat.zero_le _, Nat.zero_le _⟩ ?_
                    refine r_imul C (pc := 121) dX9_least_121 ?_
                    refine r_aload_n C (pc := 122) dX9_least_122 rfl 0 rfl ?_
                    refine r_get C (pc := 123) dX9_least_123 gf_X9_least_19 0 rfl rfl ?_
                    refine r_iload C (pc := 126) dX9_least_126 6 rfl ?_
                    refine r_iald C (pc := 128) dX9_least_128 h 2 rfl (fun h => ?_)
                    refine r_isub C (pc := 129) dX9_least_129 ?_
                    refine r_mmax C (pc := 130) dX9_least_130 mm_X9_least_5 mm_X9_least_6 mm_X9_least_7 mm_X9_least_8 (Nat.le_of_ble_eq_true rfl) (Nat.le_of_ble_eq_true rfl) ⟨Nat.zero_le _, Nat.zero_le _⟩ ?_
                    refine r_sub [0, 1, 2, 3, 4, 6] rfl ?_
                    exact hk133 (maxI v5_85 ((2 * r118) - (this_number_51 (ix v6_85)))) h
                  · refine r_iload C (pc := 105) dX9_least_105 5 rfl ?_
                    refine r_goto C (pc := 107) 133 dX9_least_107 rfl ?_
                    refine r_sub [0, 1, 2, 3, 4, 6] rfl ?_
                    exact hk133 v5_85 h
        · refine r_icmp_ne C (pc := 62) 79 dX9_least_62 rfl h (fun c62 h => ?_) (fun c62 h => ?_)
          · refine r_iconst C (pc := 79) dX9_least_79 ?_
            exact hk80 0 h
          · refine r_aload_n C (pc := 65) dX9_least_65 rfl 0 rfl ?_
            refine r_get C (pc := 66) dX9_least_66 gf_X9_least_71 0 rfl rfl ?_
            refine r_iconst C (pc := 69) dX9_least_69 ?_
            refine r_iload_n C (pc := 70) dX9_least_70 rfl 2 rfl ?_
            refine r_imul C (pc := 71) dX9_least_71 ?_
            refine r_iload C (pc := 72) dX9_least_72 4 rfl ?_
            refine r_iadd C (pc := 74) dX9_least_74 ?_
            refine r_iald C (pc := 75) dX9_least_75 h 3 rfl (fun h => ?_)
            refine r_goto C (pc := 76) 80 dX9_least_76 rfl ?_
            exact hk80 (this_corner_46 (ix ((5 * p2) + v4_51))) h
    · refine r_icmp_ne C (pc := 13) 46 dX9_least_13 rfl h (fun c13 h => ?_) (fun c13 h => ?_)
      · exact hk46 (F 23) c_this_corner c_this_named c_this_tried h
      · refine r_aload_n C (pc := 16) dX9_least_16 rfl 0 rfl ?_
        obtain ⟨r17, e17, h⟩ := wp_b1 h
        refine b_cVi C (pc := 17) dX9_least_17 (c_X9_barred (xl g) (xG g) q F c_this_far r17 e17) rfl gX9_least_X9_barred ⟨rfl, rfl⟩ 0 hd_X9_barred ⟨Nat.le_of_ble_eq_true rfl, Nat.le_of_ble_eq_true rfl⟩ rfl 0 rfl rfl rfl [0, 1] rfl (srt_nd 0 rfl) (ws' := w_X9_least (xG g) q F c_this_far c_this_number c_this_corner c_this_named c_this_tried) (Put.m rfl rfl rfl) rfl (rest := []) rfl (Nat.le_of_ble_eq_true rfl) ⟨Nat.zero_le _, Nat.zero_le _⟩ ?_
        refine r_if_lt C (pc := 20) 26 dX9_least_20 rfl h (fun c20 h => ?_) (fun c20 h => ?_)
        · refine r_aload_n C (pc := 26) dX9_least_26 rfl 0 rfl ?_
          obtain ⟨this_corners_27, this_corner_27, this_named_27, this_tried_27, e27, h⟩ := wp_b4 h
          refine b_cVv C (pc := 27) dX9_least_27 (c_X9_layCorners (xl g) (xG g) q F c_this_far c_this_corner c_this_named c_this_tried this_corners_27 this_corner_27 this_named_27 this_tried_27 e27) rfl gX9_least_X9_layCorners ⟨rfl, rfl⟩ 0 hd_X9_layCorners ⟨Nat.le_of_ble_eq_true rfl, Nat.le_of_ble_eq_true rfl⟩ rfl 0 rfl rfl rfl [0, 1, 3, 4, 5] rfl (srt_nd 0 rfl) (ws' := w_X9_least (xG g) q (up F 23 this_corners_27) c_this_far c_this_number this_corner_27 this_named_27 this_tried_27) (Put.m rfl rfl rfl) rfl (rest := []) rfl (Nat.le_of_ble_eq_true rfl) ⟨Nat.zero_le _, Nat.zero_le _⟩ ?_
          refine r_iload_n C (pc := 30) dX9_least_30 rfl 2 rfl ?_
          refine r_iconst C (pc := 31) dX9_least_31 ?_
          refine r_aload_n C (pc := 32) dX9_least_32 rfl 0 rfl ?_
          refine r_get C (pc := 33) dX9_least_33 gf_X9_least_130 0 rfl rfl ?_
          refine r_iconst C (pc := 36) dX9_least_36 ?_
          refine r_isub C (pc := 37) dX9_least_37 ?_
          obtain ⟨r38, e38, h⟩ := wp_b1 h
          refine b_cSi C (pc := 38) dX9_least_38 (c_X9_in (xl g) (xG g) p2 0 (this_corners_27 - 1) r38 e38) rfl gX9_least_X9_in ⟨rfl, rfl⟩ 3 hd_X9_in ⟨Nat.le_of_ble_eq_true rfl, Nat.le_of_ble_eq_true rfl⟩ rfl [] rfl (srt_nd 0 rfl) (ws' := w_X9_least (xG g) q (up F 23 this_corners_27) c_this_far c_this_number this_corner_27 this_named_27 this_tried_27) (Put.m rfl rfl rfl) rfl (rest := []) rfl (Nat.le_of_ble_eq_true rfl) ⟨Nat.zero_le _, Nat.zero_le _⟩ ?_
          refine r_if_ne C (pc := 41) 46 dX9_least_41 rfl h (fun c41 h => ?_) (fun c41 h => ?_)
          · exact hk46 this_corners_27 this_corner_27 this_named_27 this_tried_27 h
          · refine r_iconst C (pc := 44) dX9_least_44 ?_
            exact r_iret C (pc := 45) dX9_least_45 (hK (-1) this_corners_27 c_this_number this_corner_27 this_named_27 this_tried_27 (wp_s h) rfl)
        · refine r_bipush C (pc := 23) dX9_least_23 rfl ?_
          exact r_iret C (pc := 25) dX9_least_25 (hK (-3) (F 23) c_this_number c_this_corner c_this_named c_this_tried (wp_s h) rfl)
  · refine r_iconst C (pc := 9) dX9_least_9 ?_
    exact r_iret C (pc := 10) dX9_least_10 (hK (-1) (F 23) c_this_number c_this_corner c_this_named c_this_tried (wp_s h) rfl)
theorem c_X9_least (l : Launch) (G : gG) (q : Nat → Nat) (F : Nat → Int) (c_this_far : Nat → Int) (c_this_number : Nat → Int) (c_this_corner : Nat → Int) (c_this_named : Nat → Int) (c_this_tried : Nat → Int) (p1 : Int) (p2 : Int) (r : Int) (o0 : Int) (o1 : Nat → Int) (o2 : Nat → Int) (o3 : Nat → Int) (o4 : Nat → Int) (hf : f_X9_least p1 p2 (F 0) (F 23) c_this_far c_this_number c_this_corner c_this_named c_this_tried = some (r, o0, o1, o2, o3, o4)) : CTi l yX9_least wsX9_least rm_X9_least G (w_X9_least G q F c_this_far c_this_number c_this_corner c_this_named c_this_tried) [.ref (q 35), .int (jz p1), .int (jz p2)] (jz r) (w_X9_least G q (up F 23 o0) c_this_far o1 o2 o3 o4) := CTi_of (by decide) rfl rfl (Nat.le_of_ble_eq_true rfl) (fun g C hG hl hF => by
    subst hG
    subst hl
    exact k_X9_least C q F c_this_far c_this_number c_this_corner c_this_named c_this_tried p1 p2 (fun x => x = (r, o0, o1, o2, o3, o4)) (fun r' o0' o1' o2' o3' o4' e => by cases e; exact hF) ⟨_, hf, rfl⟩)

-- TightHullsModel.map(II)I
def f_X9_map (p1 : Int) (p2 : Int) (m_points : Int) (c_this_becomes : Nat → Int) : Option (Int × (Nat → Int)) := bd1 (f_X9_isPoint p1 m_points) (fun r2 => jn (some ((-1), c_this_becomes)) (fun (k16 : Option (Int × (Nat → Int))) => if eqI r2 0 = true then k16 else (bd1 (f_X9_isPoint p2 m_points) (fun r10 => if eqI r10 0 = true then k16 else (grd (iin p1 5) (lv ((c_this_becomes (ix p1))) (fun x24 => grd (iin p1 5) (some (x24, (up c_this_becomes (ix p1) p2))))))))))
abbrev rm_X9_map : Room := { frames := 2, cells := 0, slots := 0, locals := 43 }
abbrev w_X9_map (G : gG) (q : Nat → Nat) (F : Nat → Int) (c_this_becomes : Nat → Int) : va_W := [((q 35), oX9 F q), ((q 3), aI G 5 c_this_becomes)]
theorem hd_X9_map : yX9_map.cls = RX9 ∧ yX9_map.cls ≠ "java/lang/invoke/MethodHandle" ∧ yX9_map.cls ≠ "java/lang/invoke/VarHandle" ∧ (parseMethodDescriptor yX9_map.desc).map (fun d => d.parameters.length) = some 2 := by decide +kernel
theorem in_X9_map_X9 : ∀ w ∈ u_ws RX9 TX9 35, w ∈ wsX9_map := fun w h => List.mem_cons_of_mem _ (List.mem_append_right _ (h))
theorem gf_X9_map_22 : GF wsX9_map RX9 22 8 3 := ⟨RX9, TX9, 35, rfl, in_X9_map_X9, by decide, List.mem_of_getElem? (i := 1) rfl⟩
set_option maxRecDepth 100000 in
set_option maxHeartbeats 4000000 in
theorem k_X9_map {g : XC} (C : XOk g cX9_map RX9 wsX9_map rm_X9_map 4) (q : Nat → Nat) (F : Nat → Int) (c_this_becomes : Nat → Int) (p1 : Int) (p2 : Int) (K : (Int × (Nat → Int)) → Prop) (hK : ∀ (r : Int) (o0 : Nat → Int), K (r, o0) → (narrow .int (.int (jz r)) = .int (jz r) → FinI g 0 0 (w_X9_map (xG g) q F o0) (jz r))) (h : wp (f_X9_map p1 p2 (F 0) c_this_becomes) K) : WW g 0 0 (w_X9_map (xG g) q F c_this_becomes) 0 [(0, .ref (q 35)), (1, .int (jz p1)), (2, .int (jz p2))] [] := by
  unfold f_X9_map at h
  refine r_aload_n C (pc := 0) dX9_map_0 rfl 0 rfl ?_
  refine r_iload_n C (pc := 1) dX9_map_1 rfl 1 rfl ?_
  obtain ⟨r2, e2, h⟩ := wp_b1 h
  refine b_cVi C (pc := 2) dX9_map_2 (c_X9_isPoint (xl g) (xG g) q F p1 r2 e2) rfl gX9_map_X9_isPoint ⟨rfl, rfl⟩ 1 hd_X9_isPoint ⟨Nat.le_of_ble_eq_true rfl, Nat.le_of_ble_eq_true rfl⟩ rfl 0 rfl rfl rfl [0] rfl (srt_nd 0 rfl) (ws' := w_X9_map (xG g) q F c_this_becomes) (Put.m rfl rfl rfl) rfl (rest := []) rfl (Nat.le_of_ble_eq_true rfl) ⟨Nat.zero_le _, Nat.zero_le _⟩ ?_
  refine jn_e (fun (k16 : Option (Int × (Nat → Int))) => wp (k16) K → WW g 0 0 (w_X9_map (xG g) q F c_this_becomes) 16 [] []) h (fun h => ?_) (fun k16 hk16 h => ?_)
  · refine r_iconst C (pc := 16) dX9_map_16 ?_
    exact r_iret C (pc := 17) dX9_map_17 (hK (-1) c_this_becomes (wp_s h) rfl)
  · refine r_if_eq C (pc := 5) 16 dX9_map_5 rfl h (fun c5 h => ?_) (fun c5 h => ?_)
    · refine r_sub [] rfl ?_
      exact hk16 h
    · refine r_aload_n C (pc := 8) dX9_map_8 rfl 0 rfl ?_
      refine r_iload_n C (pc := 9) dX9_map_9 rfl 2 rfl ?_
      obtain ⟨r10, e10, h⟩ := wp_b1 h
      refine b_cVi C (pc := 10) dX9_map_10 (c_X9_isPoint (xl g) (xG g) q F p2 r10 e10) rfl gX9_map_X9_isPoint ⟨rfl, rfl⟩ 1 hd_X9_isPoint ⟨Nat.le_of_ble_eq_true rfl, Nat.le_of_ble_eq_true rfl⟩ rfl 0 rfl rfl rfl [0] rfl (srt_nd 0 rfl) (ws' := w_X9_map (xG g) q F c_this_becomes) (Put.m rfl rfl rfl) rfl (rest := []) rfl (Nat.le_of_ble_eq_true rfl) ⟨Nat.zero_le _, Nat.zero_le _⟩ ?_
      refine r_if_ne C (pc := 13) 18 dX9_map_13 rfl h (fun c13 h => ?_) (fun c13 h => ?_)
      · refine r_aload_n C (pc := 18) dX9_map_18 rfl 0 rfl ?_
        refine r_get C (pc := 19) dX9_map_19 gf_X9_map_22 0 rfl rfl ?_
        refine r_iload_n C (pc := 22) dX9_map_22 rfl 1 rfl ?_
        refine r_iald C (pc := 23) dX9_map_23 h 1 rfl (fun h => ?_)
        refine r_let h (fun x24 h => ?_)
        refine r_istore_n C (pc := 24) dX9_map_24 rfl (by decide) (L' := [(0, .ref (q 35)), (1, .int (jz p1)), (2, .int (jz p2)), (3, .int (jz x24))]) rfl ?_
        refine r_aload_n C (pc := 25) dX9_map_25 rfl 0 rfl ?_
        refine r_get C (pc := 26) dX9_map_26 gf_X9_map_22 0 rfl rfl ?_
        refine r_iload_n C (pc := 29) dX9_map_29 rfl 1 rfl ?_
        refine r_iload_n C (pc := 30) dX9_map_30 rfl 2 rfl ?_
        refine r_iast C (pc := 31) dX9_map_31 h 1 rfl (ws' := w_X9_map (xG g) q F (up c_this_becomes (ix p1) p2)) rfl (fun h => ?_)
        refine r_iload_n C (pc := 32) dX9_map_32 rfl 3 rfl ?_
        exact r_iret C (pc := 33) dX9_map_33 (hK x24 (up c_this_becomes (ix p1) p2) (wp_s h) rfl)
      · refine r_sub [] rfl ?_
        exact hk16 h
theorem c_X9_map (l : Launch) (G : gG) (q : Nat → Nat) (F : Nat → Int) (c_this_becomes : Nat → Int) (p1 : Int) (p2 : Int) (r : Int) (o0 : Nat → Int) (hf : f_X9_map p1 p2 (F 0) c_this_becomes = some (r, o0)) : CTi l yX9_map wsX9_map rm_X9_map G (w_X9_map G q F c_this_becomes) [.ref (q 35), .int (jz p1), .int (jz p2)] (jz r) (w_X9_map G q F o0) := CTi_of (by decide) rfl rfl (Nat.le_of_ble_eq_true rfl) (fun g C hG hl hF => by
    subst hG
    subst hl
    exact k_X9_map C q F c_this_becomes p1 p2 (fun x => x = (r, o0)) (fun r' o0' e => by cases e; exact hF) ⟨_, hf, rfl⟩)

-- TightHullsModel.isFour(IIII)Z
def f_X9_isFour (p1 : Int) (p2 : Int) (p3 : Int) (p4 : Int) (c_this_far : Nat → Int) : Option Int := bd1 (f_X9_d p1 p2 c_this_far) (fun r3 => bd1 (f_X9_d p3 p4 c_this_far) (fun r10 => lv ((r3 + r10)) (fun x14 => bd1 (f_X9_d p1 p3 c_this_far) (fun r19 => bd1 (f_X9_d p2 p4 c_this_far) (fun r26 => lv ((r19 + r26)) (fun x30 => bd1 (f_X9_d p1 p4 c_this_far) (fun r36 => bd1 (f_X9_d p2 p3 c_this_far) (fun r42 => lv ((r36 + r42)) (fun x46 => lv ((maxI x14 (maxI x30 x46))) (fun x60 => jn (fun (s0_74 : Int) => jn (fun (s1_86 : Int) => jn (fun (s1_99 : Int) => jn (fun (s0_109 : Int) => grd (isB s0_109) (some s0_109)) (fun (k109 : Int → Option Int) => if ltI 1 ((s0_74 + s1_86) + s1_99) = true then (k109 1) else (k109 0))) (fun (k99 : Int → Option Int) => if eqI x46 x60 = true then (k99 1) else (k99 0))) (fun (k86 : Int → Option Int) => if eqI x30 x60 = true then (k86 1) else (k86 0))) (fun (k74 : Int → Option Int) => if eqI x14 x60 = true then (k74 1) else (k74 0))))))))))))
abbrev rm_X9_isFour : Room := { frames := 1, cells := 0, slots := 0, locals := 60 }
abbrev w_X9_isFour (G : gG) (q : Nat → Nat) (F : Nat → Int) (c_this_far : Nat → Int) : va_W := [((q 35), oX9 F q), ((q 1), aI G 25 c_this_far)]
theorem hd_X9_isFour : yX9_isFour.cls = RX9 ∧ yX9_isFour.cls ≠ "java/lang/invoke/MethodHandle" ∧ yX9_isFour.cls ≠ "java/lang/invoke/VarHandle" ∧ (parseMethodDescriptor yX9_isFour.desc).map (fun d => d.parameters.length) = some 4 := by decide +kernel
theorem mm_X9_isFour_1 : Cond.methodLink RX9 133 Lib.Math.max.name ∈ wsX9_isFour := List.mem_of_getElem? (i := 1) rfl
theorem mm_X9_isFour_2 : Cond.static Lib.Math.max.name ∈ wsX9_isFour := List.mem_of_getElem? (i := 2) rfl
theorem mm_X9_isFour_3 : Cond.initialized "java/lang/Math" ∈ wsX9_isFour := List.mem_of_getElem? (i := 3) rfl
theorem mm_X9_isFour_4 : Cond.code Lib.Math.max.name Lib.Math.max.code 2 (some .int) ∈ wsX9_isFour := List.mem_of_getElem? (i := 4) rfl
set_option maxRecDepth 100000 in
set_option maxHeartbeats 4000000 in
theorem k_X9_isFour {g : XC} (C : XOk g cX9_isFour RX9 wsX9_isFour rm_X9_isFour 9) (q : Nat → Nat) (F : Nat → Int) (c_this_far : Nat → Int) (p1 : Int) (p2 : Int) (p3 : Int) (p4 : Int) (K : Int → Prop) (hK : ∀ (r : Int), K r → (narrow .boolean (.int (jz r)) = .int (jz r) → FinI g 0 0 (w_X9_isFour (xG g) q F c_this_far) (jz r))) (h : wp (f_X9_isFour p1 p2 p3 p4 c_this_far) K) : WW g 0 0 (w_X9_isFour (xG g) q F c_this_far) 0 [(0, .ref (q 35)), (1, .int (jz p1)), (2, .int (jz p2)), (3, .int (jz p3)), (4, .int (jz p4))] [] := by
  unfold f_X9_isFour at h
  refine r_aload_n C (pc := 0) dX9_isFour_0 rfl 0 rfl ?_
  refine r_iload_n C (pc := 1) dX9_isFour_1 rfl 1 rfl ?_
  refine r_iload_n C (pc := 2) dX9_isFour_2 rfl 2 rfl ?_
  obtain ⟨r3, e3, h⟩ := wp_b1 h
  refine b_cVi C (pc := 3) dX9_isFour_3 (c_X9_d (xl g) (xG g) q F c_this_far p1 p2 r3 e3) rfl gX9_isFour_X9_d ⟨rfl, rfl⟩ 2 hd_X9_d ⟨Nat.le_of_ble_eq_true rfl, Nat.le_of_ble_eq_true rfl⟩ rfl 0 rfl rfl rfl [0, 1] rfl (srt_nd 0 rfl) (ws' := w_X9_isFour (xG g) q F c_this_far) (Put.m rfl rfl rfl) rfl (rest := []) rfl (Nat.le_of_ble_eq_true rfl) ⟨Nat.zero_le _, Nat.zero_le _⟩ ?_
  refine r_aload_n C (pc := 6) dX9_isFour_6 rfl 0 rfl ?_
  refine r_iload_n C (pc := 7) dX9_isFour_7 rfl 3 rfl ?_
  refine r_iload C (pc := 8) dX9_isFour_8 4 rfl ?_
  obtain ⟨r10, e10, h⟩ := wp_b1 h
  refine b_cVi C (pc := 10) dX9_isFour_10 (c_X9_d (xl g) (xG g) q F c_this_far p3 p4 r10 e10) rfl gX9_isFour_X9_d ⟨rfl, rfl⟩ 2 hd_X9_d ⟨Nat.le_of_ble_eq_true rfl, Nat.le_of_ble_eq_true rfl⟩ rfl 0 rfl rfl rfl [0, 1] rfl (srt_nd 0 rfl) (ws' := w_X9_isFour (xG g) q F c_this_far) (Put.m rfl rfl rfl) rfl (rest := [.int (jz r3)]) rfl (Nat.le_of_ble_eq_true rfl) ⟨Nat.zero_le _, Nat.zero_le _⟩ ?_
  refine r_iadd C (pc := 13) dX9_isFour_13 ?_
  refine r_let h (fun x14 h => ?_)
  refine r_istore C (pc := 14) dX9_isFour_14 (by decide) (L' := [(0, .ref (q 35)), (1, .int (jz p1)), (2, .int (jz p2)), (3, .int (jz p3)), (4, .int (jz p4)), (5, .int (jz x14))]) rfl ?_
  refine r_aload_n C (pc := 16) dX9_isFour_16 rfl 0 rfl ?_
  refine r_iload_n C (pc := 17) dX9_isFour_17 rfl 1 rfl ?_
  refine r_iload_n C (pc := 18) dX9_isFour_18 rfl 3 rfl ?_
  obtain ⟨r19, e19, h⟩ := wp_b1 h
  refine b_cVi C (pc := 19) dX9_isFour_19 (c_X9_d (xl g) (xG g) q F c_this_far p1 p3 r19 e19) rfl gX9_isFour_X9_d ⟨rfl, rfl⟩ 2 hd_X9_d ⟨Nat.le_of_ble_eq_true rfl, Nat.le_of_ble_eq_true rfl⟩ rfl 0 rfl rfl rfl [0, 1] rfl (srt_nd 0 rfl) (ws' := w_X9_isFour (xG g) q F c_this_far) (Put.m rfl rfl rfl) rfl (rest := []) rfl (Nat.le_of_ble_eq_true rfl) ⟨Nat.zero_le _, Nat.zero_le _⟩ ?_
  refine r_aload_n C (pc := 22) dX9_isFour_22 rfl 0 rfl ?_
  refine r_iload_n C (pc := 23) dX9_isFour_23 rfl 2 rfl ?_
  refine r_iload C (pc := 24) dX9_isFour_24 4 rfl ?_
  obtain ⟨r26, e26, h⟩ := wp_b1 h
  refine b_cVi C (pc := 26) dX9_isFour_26 (c_X9_d (xl g) (xG g) q F c_this_far p2 p4 r26 e26) rfl gX9_isFour_X9_d ⟨rfl, rfl⟩ 2 hd_X9_d ⟨Nat.le_of_ble_eq_true rfl, Nat.le_of_ble_eq_true rfl⟩ rfl 0 rfl rfl rfl [0, 1] rfl (srt_nd 0 rfl) (ws' := w_X9_isFour (xG g) q F c_this_far) (Put.m rfl rfl rfl) rfl (rest := [.int (jz r19)]) rfl (Nat.le_of_ble_eq_true rfl) ⟨Nat.zero_le _, Nat.zero_le _⟩ ?_
  refine r_iadd C (pc := 29) dX9_isFour_29 ?_
  refine r_let h (fun x30 h => ?_)
  refine r_istore C (pc := 30) dX9_isFour_30 (by decide) (L' := [(0, .ref (q 35)), (1, .int (jz p1)), (2, .int (jz p2)), (3, .int (jz p3)), (4, .int (jz p4)), (5, .int (jz x14)), (6, .int (jz x30))]) rfl ?_
  refine r_aload_n C (pc := 32) dX9_isFour_32 rfl 0 rfl ?_
  refine r_iload_n C (pc := 33) dX9_isFour_33 rfl 1 rfl ?_
  refine r_iload C (pc := 34) dX9_isFour_34 4 rfl ?_
  obtain ⟨r36, e36, h⟩ := wp_b1 h
  refine b_cVi C (pc := 36) dX9_isFour_36 (c_X9_d (xl g) (xG g) q F c_this_far p1 p4 r36 e36) rfl gX9_isFour_X9_d ⟨rfl, rfl⟩ 2 hd_X9_d ⟨Nat.le_of_ble_eq_true rfl, Nat.le_of_ble_eq_true rfl⟩ rfl 0 rfl rfl rfl [0, 1] rfl (srt_nd 0 rfl) (ws' := w_X9_isFour (xG g) q F c_this_far) (Put.m rfl rfl rfl) rfl (rest := []) rfl (Nat.le_of_ble_eq_true rfl) ⟨Nat.zero_le _, Nat.zero_le _⟩ ?_
  refine r_aload_n C (pc := 39) dX9_isFour_39 rfl 0 rfl ?_
  refine r_iload_n C (pc := 40) dX9_isFour_40 rfl 2 rfl ?_
  refine r_iload_n C (pc := 41) dX9_isFour_41 rfl 3 rfl ?_
  obtain ⟨r42, e42, h⟩ := wp_b1 h
  refine b_cVi C (pc := 42) dX9_isFour_42 (c_X9_d (xl g) (xG g) q F c_this_far p2 p3 r42 e42) rfl gX9_isFour_X9_d ⟨rfl, rfl⟩ 2 hd_X9_d ⟨Nat.le_of_ble_eq_true rfl, Nat.le_of_ble_eq_true rfl⟩ rfl 0 rfl rfl rfl [0, 1] rfl (srt_nd 0 rfl) (ws' := w_X9_isFour (xG g) q F c_this_far) (Put.m rfl rfl rfl) rfl (rest := [.int (jz r36)]) rfl (Nat.le_of_ble_eq_true rfl) ⟨Nat.zero_le _, Nat.zero_le _⟩ ?_
  refine r_iadd C (pc := 45) dX9_isFour_45 ?_
  refine r_let h (fun x46 h => ?_)
  refine r_istore C (pc := 46) dX9_isFour_46 (by decide) (L' := [(0, .ref (q 35)), (1, .int (jz p1)), (2, .int (jz p2)), (3, .int (jz p3)), (4, .int (jz p4)), (5, .int (jz x14)), (6, .int (jz x30)), (7, .int (jz x46))]) rfl ?_
  refine r_iload C (pc := 48) dX9_isFour_48 5 rfl ?_
  refine r_iload C (pc := 50) dX9_isFour_50 6 rfl ?_
  refine r_iload C (pc := 52) dX9_isFour_52 7 rfl ?_
  refine r_mmax C (pc := 54) dX9_isFour_54 mm_X9_isFour_1 mm_X9_isFour_2 mm_X9_isFour_3 mm_X9_isFour_4 (Nat.le_of_ble_eq_true rfl) (Nat.le_of_ble_eq_true rfl) ⟨Nat.zero_le _, Nat.zero_le _⟩ ?_
  refine r_mmax C (pc := 57) dX9_isFour_57 mm_X9_isFour_1 mm_X9_isFour_2 mm_X9_isFour_3 mm_X9_isFour_4 (Nat.le_of_ble_eq_true rfl) (Nat.le_of_ble_eq_true rfl) ⟨Nat.zero_le _, Nat.zero_le _⟩ ?_
  refine r_let h (fun x60 h => ?_)
  refine r_istore C (pc := 60) dX9_isFour_60 (by decide) (L' := [(0, .ref (q 35)), (1, .int (jz p1)), (2, .int (jz p2)), (3, .int (jz p3)), (4, .int (jz p4)), (5, .int (jz x14)), (6, .int (jz x30)), (7, .int (jz x46)), (8, .int (jz x60))]) rfl ?_
  refine r_iload C (pc := 62) dX9_isFour_62 5 rfl ?_
  refine r_iload C (pc := 64) dX9_isFour_64 8 rfl ?_
  refine jn_e (fun (k74 : Int → Option Int) => ∀ (s0_74 : Int), wp (k74 s0_74) K → WW g 0 0 (w_X9_isFour (xG g) q F c_this_far) 74 [(6, .int (jz x30)), (7, .int (jz x46)), (8, .int (jz x60))] [.int (jz s0_74)]) h (fun s0_74 h => ?_) (fun k74 hk74 h => ?_)
  · refine r_iload C (pc := 74) dX9_isFour_74 0 rfl ?_
    refine r_iload C (pc := 76) dX9_isFour_76 2 rfl ?_
    refine jn_e (fun (k86 : Int → Option Int) => ∀ (s1_86 : Int), wp (k86 s1_86) K → WW g 0 0 (w_X9_isFour (xG g) q F c_this_far) 86 [(7, .int (jz x46)), (8, .int (jz x60))] [.int (jz s1_86), .int (jz s0_74)]) h (fun s1_86 h => ?_) (fun k86 hk86 h => ?_)
    · refine r_iadd C (pc := 86) dX9_isFour_86 ?_
      refine r_iload C (pc := 87) dX9_isFour_87 0 rfl ?_
      refine r_iload C (pc := 89) dX9_isFour_89 1 rfl ?_
      refine jn_e (fun (k99 : Int → Option Int) => ∀ (s1_99 : Int), wp (k99 s1_99) K → WW g 0 0 (w_X9_isFour (xG g) q F c_this_far) 99 [] [.int (jz s1_99), .int (jz (s0_74 + s1_86))]) h (fun s1_99 h => ?_) (fun k99 hk99 h => ?_)
      · refine r_iadd C (pc := 99) dX9_isFour_99 ?_
        refine r_iconst C (pc := 100) dX9_isFour_100 ?_
        refine jn_e (fun (k109 : Int → Option Int) => ∀ (s0_109 : Int), wp (k109 s0_109) K → WW g 0 0 (w_X9_isFour (xG g) q F c_this_far) 109 [] [.int (jz s0_109)]) h (fun s0_109 h => ?_) (fun k109 hk109 h => ?_)
        · exact r_iret C (pc := 109) dX9_isFour_109 (hK s0_109 (wp_s (wp_g h).2) (nB (wp_g h).1).1)
        · refine r_icmp_le C (pc := 101) 108 dX9_isFour_101 rfl h (fun c101 h => ?_) (fun c101 h => ?_)
          · refine r_iconst C (pc := 108) dX9_isFour_108 ?_
            exact hk109 0 h
          · refine r_iconst C (pc := 104) dX9_isFour_104 ?_
            refine r_goto C (pc := 105) 109 dX9_isFour_105 rfl ?_
            exact hk109 1 h
      · refine r_icmp_ne C (pc := 91) 98 dX9_isFour_91 rfl h (fun c91 h => ?_) (fun c91 h => ?_)
        · refine r_iconst C (pc := 98) dX9_isFour_98 ?_
          refine r_sub [] rfl ?_
          exact hk99 0 h
        · refine r_iconst C (pc := 94) dX9_isFour_94 ?_
          refine r_goto C (pc := 95) 99 dX9_isFour_95 rfl ?_
          refine r_sub [] rfl ?_
          exact hk99 1 h
    · refine r_icmp_ne C (pc := 78) 85 dX9_isFour_78 rfl h (fun c78 h => ?_) (fun c78 h => ?_)
      · refine r_iconst C (pc := 85) dX9_isFour_85 ?_
        refine r_sub [1, 2] rfl ?_
        exact hk86 0 h
      · refine r_iconst C (pc := 81) dX9_isFour_81 ?_
        refine r_goto C (pc := 82) 86 dX9_isFour_82 rfl ?_
        refine r_sub [1, 2] rfl ?_
        exact hk86 1 h
  · refine r_icmp_ne C (pc := 66) 73 dX9_isFour_66 rfl h (fun c66 h => ?_) (fun c66 h => ?_)
    · refine r_iconst C (pc := 73) dX9_isFour_73 ?_
      refine r_sub [6, 7, 8] rfl ?_
      exact hk74 0 h
    · refine r_iconst C (pc := 69) dX9_isFour_69 ?_
      refine r_goto C (pc := 70) 74 dX9_isFour_70 rfl ?_
      refine r_sub [6, 7, 8] rfl ?_
      exact hk74 1 h
theorem c_X9_isFour (l : Launch) (G : gG) (q : Nat → Nat) (F : Nat → Int) (c_this_far : Nat → Int) (p1 : Int) (p2 : Int) (p3 : Int) (p4 : Int) (r : Int) (hf : f_X9_isFour p1 p2 p3 p4 c_this_far = some r) : CTi l yX9_isFour wsX9_isFour rm_X9_isFour G (w_X9_isFour G q F c_this_far) [.ref (q 35), .int (jz p1), .int (jz p2), .int (jz p3), .int (jz p4)] (jz r) (w_X9_isFour G q F c_this_far) := CTi_of (by decide) rfl rfl (Nat.le_of_ble_eq_true rfl) (fun g C hG hl hF => by
    subst hG
    subst hl
    exact k_X9_isFour C q F c_this_far p1 p2 p3 p4 (fun x => x = r) (fun r' e => by cases e; exact hF) ⟨_, hf, rfl⟩)

-- TightHullsModel.isTree()Z
def f_X9_isTree (m_points : Int) (c_this_far : Nat → Int) : Option Int := lq1 (fun (n2 : Int → Option Int) (v1_2 : Int) => if ltI v1_2 m_points = true then (lq1 (fun (n12 : Int → Option Int) (v2_12 : Int) => if ltI v2_12 v1_2 = true then (lq1 (fun (n19 : Int → Option Int) (v3_19 : Int) => if ltI v3_19 v2_12 = true then (lq1 (fun (n27 : Int → Option Int) (v4_27 : Int) => if ltI v4_27 v3_19 = true then (bd1 (f_X9_isFour v1_2 v2_12 v3_19 v4_27 c_this_far) (fun r39 => if eqI r39 0 = true then (some 0) else (n27 (v4_27 + 1)))) else (n19 (v3_19 + 1))) 300 0) else (n12 (v2_12 + 1))) 300 0) else (n2 (v1_2 + 1))) 300 0) else (bd1 (f_X9_barred m_points c_this_far) (fun r72 => jn (fun (s0_83 : Int) => grd (isB s0_83) (some s0_83)) (fun (k83 : Int → Option Int) => if ltI r72 0 = true then (k83 1) else (k83 0))))) 300 0
abbrev rm_X9_isTree : Room := { frames := 2, cells := 0, slots := 0, locals := 88 }
abbrev w_X9_isTree (G : gG) (q : Nat → Nat) (F : Nat → Int) (c_this_far : Nat → Int) : va_W := [((q 35), oX9 F q), ((q 1), aI G 25 c_this_far)]
theorem hd_X9_isTree : yX9_isTree.cls = RX9 ∧ yX9_isTree.cls ≠ "java/lang/invoke/MethodHandle" ∧ yX9_isTree.cls ≠ "java/lang/invoke/VarHandle" ∧ (parseMethodDescriptor yX9_isTree.desc).map (fun d => d.parameters.length) = some 0 := by decide +kernel
theorem in_X9_isTree_X9 : ∀ w ∈ u_ws RX9 TX9 35, w ∈ wsX9_isTree := fun w h => List.mem_cons_of_mem _ (List.mem_append_right _ (h))
theorem gf_X9_isTree_9 : GF wsX9_isTree RX9 9 8 0 := ⟨RX9, TX9, 35, rfl, in_X9_isTree_X9, by decide, List.mem_of_getElem? (i := 1) rfl⟩
set_option maxRecDepth 100000 in
set_option maxHeartbeats 4000000 in
theorem k_X9_isTree {g : XC} (C : XOk g cX9_isTree RX9 wsX9_isTree rm_X9_isTree 5) (q : Nat → Nat) (F : Nat → Int) (c_this_far : Nat → Int)  (K : Int → Prop) (hK : ∀ (r : Int), K r → (narrow .boolean (.int (jz r)) = .int (jz r) → FinI g 0 0 (w_X9_isTree (xG g) q F c_this_far) (jz r))) (h : wp (f_X9_isTree (F 0) c_this_far) K) : WW g 0 0 (w_X9_isTree (xG g) q F c_this_far) 0 [(0, .ref (q 35))] [] := by
  unfold f_X9_isTree at h
  refine r_iconst C (pc := 0) dX9_isTree_0 ?_
  refine r_istore_n C (pc := 1) dX9_isTree_1 rfl (by decide) (L' := [(0, .ref (q 35)), (1, .int (jz 0))]) rfl ?_
  refine lq1_e (fun (v1_2 : Int) => WW g 0 0 (w_X9_isTree (xG g) q F c_this_far) 2 [(0, .ref (q 35)), (1, .int (jz v1_2))] []) h (fun n2 hn2 v1_2 h => ?_)
  refine r_iload_n C (pc := 2) dX9_isTree_2 rfl 1 rfl ?_
  refine r_aload_n C (pc := 3) dX9_isTree_3 rfl 0 rfl ?_
  refine r_get C (pc := 4) dX9_isTree_4 gf_X9_isTree_9 0 rfl rfl ?_
  refine r_icmp_ge C (pc := 7) 71 dX9_isTree_7 rfl h (fun c7 h => ?_) (fun c7 h => ?_)
  · refine r_aload_n C (pc := 71) dX9_isTree_71 rfl 0 rfl ?_
    obtain ⟨r72, e72, h⟩ := wp_b1 h
    refine b_cVi C (pc := 72) dX9_isTree_72 (c_X9_barred (xl g) (xG g) q F c_this_far r72 e72) rfl gX9_isTree_X9_barred ⟨rfl, rfl⟩ 0 hd_X9_barred ⟨Nat.le_of_ble_eq_true rfl, Nat.le_of_ble_eq_true rfl⟩ rfl 0 rfl rfl rfl [0, 1] rfl (srt_nd 0 rfl) (ws' := w_X9_isTree (xG g) q F c_this_far) (Put.m rfl rfl rfl) rfl (rest := []) rfl (Nat.le_of_ble_eq_true rfl) ⟨Nat.zero_le _, Nat.zero_le _⟩ ?_
    refine jn_e (fun (k83 : Int → Option Int) => ∀ (s0_83 : Int), wp (k83 s0_83) K → WW g 0 0 (w_X9_isTree (xG g) q F c_this_far) 83 [] [.int (jz s0_83)]) h (fun s0_83 h => ?_) (fun k83 hk83 h => ?_)
    · exact r_iret C (pc := 83) dX9_isTree_83 (hK s0_83 (wp_s (wp_g h).2) (nB (wp_g h).1).1)
    · refine r_if_ge C (pc := 75) 82 dX9_isTree_75 rfl h (fun c75 h => ?_) (fun c75 h => ?_)
      · refine r_iconst C (pc := 82) dX9_isTree_82 ?_
        refine r_sub [] rfl ?_
        exact hk83 0 h
      · refine r_iconst C (pc := 78) dX9_isTree_78 ?_
        refine r_goto C (pc := 79) 83 dX9_isTree_79 rfl ?_
        refine r_sub [] rfl ?_
        exact hk83 1 h
  · refine r_iconst C (pc := 10) dX9_isTree_10 ?_
    refine r_istore_n C (pc := 11) dX9_isTree_11 rfl (by decide) (L' := [(0, .ref (q 35)), (1, .int (jz v1_2)), (2, .int (jz 0))]) rfl ?_
    refine lq1_e (fun (v2_12 : Int) => WW g 0 0 (w_X9_isTree (xG g) q F c_this_far) 12 [(0, .ref (q 35)), (1, .int (jz v1_2)), (2, .int (jz v2_12))] []) h (fun n12 hn12 v2_12 h => ?_)
    refine r_iload_n C (pc := 12) dX9_isTree_12 rfl 2 rfl ?_
    refine r_iload_n C (pc := 13) dX9_isTree_13 rfl 1 rfl ?_
    refine r_icmp_ge C (pc := 14) 65 dX9_isTree_14 rfl h (fun c14 h => ?_) (fun c14 h => ?_)
    · refine r_iinc C (pc := 65) dX9_isTree_65 1 rfl (by decide) (L' := [(0, .ref (q 35)), (1, .int (jz (v1_2 + 1))), (2, .int (jz v2_12))]) rfl ?_
      refine r_goto C (pc := 68) 2 dX9_isTree_68 rfl ?_
      refine r_sub [0, 1] rfl ?_
      exact hn2 (v1_2 + 1) h
    · refine r_iconst C (pc := 17) dX9_isTree_17 ?_
      refine r_istore_n C (pc := 18) dX9_isTree_18 rfl (by decide) (L' := [(0, .ref (q 35)), (1, .int (jz v1_2)), (2, .int (jz v2_12)), (3, .int (jz 0))]) rfl ?_
      refine lq1_e (fun (v3_19 : Int) => WW g 0 0 (w_X9_isTree (xG g) q F c_this_far) 19 [(0, .ref (q 35)), (1, .int (jz v1_2)), (2, .int (jz v2_12)), (3, .int (jz v3_19))] []) h (fun n19 hn19 v3_19 h => ?_)
      refine r_iload_n C (pc := 19) dX9_isTree_19 rfl 3 rfl ?_
      refine r_iload_n C (pc := 20) dX9_isTree_20 rfl 2 rfl ?_
      refine r_icmp_ge C (pc := 21) 59 dX9_isTree_21 rfl h (fun c21 h => ?_) (fun c21 h => ?_)
      · refine r_iinc C (pc := 59) dX9_isTree_59 2 rfl (by decide) (L' := [(0, .ref (q 35)), (1, .int (jz v1_2)), (2, .int (jz (v2_12 + 1))), (3, .int (jz v3_19))]) rfl ?_
        refine r_goto C (pc := 62) 12 dX9_isTree_62 rfl ?_
        refine r_sub [0, 1, 2] rfl ?_
        exact hn12 (v2_12 + 1) h
      · refine r_iconst C (pc := 24) dX9_isTree_24 ?_
        refine r_istore C (pc := 25) dX9_isTree_25 (by decide) (L' := [(0, .ref (q 35)), (1, .int (jz v1_2)), (2, .int (jz v2_12)), (3, .int (jz v3_19)), (4, .int (jz 0))]) rfl ?_
        refine lq1_e (fun (v4_27 : Int) => WW g 0 0 (w_X9_isTree (xG g) q F c_this_far) 27 [(0, .ref (q 35)), (1, .int (jz v1_2)), (2, .int (jz v2_12)), (3, .int (jz v3_19)), (4, .int (jz v4_27))] []) h (fun n27 hn27 v4_27 h => ?_)
        refine r_iload C (pc := 27) dX9_isTree_27 4 rfl ?_
        refine r_iload_n C (pc := 29) dX9_isTree_29 rfl 3 rfl ?_
        refine r_icmp_ge C (pc := 30) 53 dX9_isTree_30 rfl h (fun c30 h => ?_) (fun c30 h => ?_)
        · refine r_iinc C (pc := 53) dX9_isTree_53 3 rfl (by decide) (L' := [(0, .ref (q 35)), (1, .int (jz v1_2)), (2, .int (jz v2_12)), (3, .int (jz (v3_19 + 1))), (4, .int (jz v4_27))]) rfl ?_
          refine r_goto C (pc := 56) 19 dX9_isTree_56 rfl ?_
          refine r_sub [0, 1, 2, 3] rfl ?_
          exact hn19 (v3_19 + 1) h
        · refine r_aload_n C (pc := 33) dX9_isTree_33 rfl 0 rfl ?_
          refine r_iload_n C (pc := 34) dX9_isTree_34 rfl 1 rfl ?_
          refine r_iload_n C (pc := 35) dX9_isTree_35 rfl 2 rfl ?_
          refine r_iload_n C (pc := 36) dX9_isTree_36 rfl 3 rfl ?_
          refine r_iload C (pc := 37) dX9_isTree_37 4 rfl ?_
          obtain ⟨r39, e39, h⟩ := wp_b1 h
          refine b_cVi C (pc := 39) dX9_isTree_39 (c_X9_isFour (xl g) (xG g) q F c_this_far v1_2 v2_12 v3_19 v4_27 r39 e39) rfl gX9_isTree_X9_isFour ⟨rfl, rfl⟩ 4 hd_X9_isFour ⟨Nat.le_of_ble_eq_true rfl, Nat.le_of_ble_eq_true rfl⟩ rfl 0 rfl rfl rfl [0, 1] rfl (srt_nd 0 rfl) (ws' := w_X9_isTree (xG g) q F c_this_far) (Put.m rfl rfl rfl) rfl (rest := []) rfl (Nat.le_of_ble_eq_true rfl) ⟨Nat.zero_le _, Nat.zero_le _⟩ ?_
          refine r_if_ne C (pc := 42) 47 dX9_isTree_42 rfl h (fun c42 h => ?_) (fun c42 h => ?_)
          · refine r_iinc C (pc := 47) dX9_isTree_47 4 rfl (by decide) (L' := [(0, .ref (q 35)), (1, .int (jz v1_2)), (2, .int (jz v2_12)), (3, .int (jz v3_19)), (4, .int (jz (v4_27 + 1)))]) rfl ?_
            refine r_goto C (pc := 50) 27 dX9_isTree_50 rfl ?_
            exact hn27 (v4_27 + 1) h
          · refine r_iconst C (pc := 45) dX9_isTree_45 ?_
            exact r_iret C (pc := 46) dX9_isTree_46 (hK 0 (wp_s h) (nB rfl).1)
theorem c_X9_isTree (l : Launch) (G : gG) (q : Nat → Nat) (F : Nat → Int) (c_this_far : Nat → Int) (r : Int) (hf : f_X9_isTree (F 0) c_this_far = some r) : CTi l yX9_isTree wsX9_isTree rm_X9_isTree G (w_X9_isTree G q F c_this_far) [.ref (q 35)] (jz r) (w_X9_isTree G q F c_this_far) := CTi_of (by decide) rfl rfl (Nat.le_of_ble_eq_true rfl) (fun g C hG hl hF => by
    subst hG
    subst hl
    exact k_X9_isTree C q F c_this_far (fun x => x = r) (fun r' e => by cases e; exact hF) ⟨_, hf, rfl⟩)

-- TightHullsModel.girth()I
def f_X9_girth (m_points : Int) (c_this_far : Nat → Int) : Option Int := lq2 (fun (n4 : Int → Int → Option Int) (v1_4 : Int) (v2_4 : Int) => if ltI v2_4 m_points = true then (lq2 (fun (n14 : Int → Int → Option Int) (v1_14 : Int) (v3_14 : Int) => if ltI v3_14 v2_4 = true then (bd1 (f_X9_d v2_4 v3_14 c_this_far) (fun r23 => lv ((v1_14 + r23)) (fun x27 => n14 x27 (v3_14 + 1)))) else (n4 v1_14 (v2_4 + 1))) 300 v1_4 0) else (some v1_4)) 300 0 0
abbrev rm_X9_girth : Room := { frames := 1, cells := 0, slots := 0, locals := 22 }
abbrev w_X9_girth (G : gG) (q : Nat → Nat) (F : Nat → Int) (c_this_far : Nat → Int) : va_W := [((q 35), oX9 F q), ((q 1), aI G 25 c_this_far)]
theorem hd_X9_girth : yX9_girth.cls = RX9 ∧ yX9_girth.cls ≠ "java/lang/invoke/MethodHandle" ∧ yX9_girth.cls ≠ "java/lang/invoke/VarHandle" ∧ (parseMethodDescriptor yX9_girth.desc).map (fun d => d.parameters.length) = some 0 := by decide +kernel
theorem in_X9_girth_X9 : ∀ w ∈ u_ws RX9 TX9 35, w ∈ wsX9_girth := fun w h => List.mem_cons_of_mem _ (List.mem_append_right _ (h))
theorem gf_X9_girth_9 : GF wsX9_girth RX9 9 8 0 := ⟨RX9, TX9, 35, rfl, in_X9_girth_X9, by decide, List.mem_of_getElem? (i := 1) rfl⟩
set_option maxRecDepth 100000 in
set_option maxHeartbeats 4000000 in
theorem k_X9_girth {g : XC} (C : XOk g cX9_girth RX9 wsX9_girth rm_X9_girth 4) (q : Nat → Nat) (F : Nat → Int) (c_this_far : Nat → Int)  (K : Int → Prop) (hK : ∀ (r : Int), K r → (narrow .int (.int (jz r)) = .int (jz r) → FinI g 0 0 (w_X9_girth (xG g) q F c_this_far) (jz r))) (h : wp (f_X9_girth (F 0) c_this_far) K) : WW g 0 0 (w_X9_girth (xG g) q F c_this_far) 0 [(0, .ref (q 35))] [] := by
  unfold f_X9_girth at h
  refine r_iconst C (pc := 0) dX9_girth_0 ?_
  refine r_istore_n C (pc := 1) dX9_girth_1 rfl (by decide) (L' := [(0, .ref (q 35)), (1, .int (jz 0))]) rfl ?_
  refine r_iconst C (pc := 2) dX9_girth_2 ?_
  refine r_istore_n C (pc := 3) dX9_girth_3 rfl (by decide) (L' := [(0, .ref (q 35)), (1, .int (jz 0)), (2, .int (jz 0))]) rfl ?_
  refine lq2_e (fun (v1_4 : Int) (v2_4 : Int) => WW g 0 0 (w_X9_girth (xG g) q F c_this_far) 4 [(0, .ref (q 35)), (1, .int (jz v1_4)), (2, .int (jz v2_4))] []) h (fun n4 hn4 v1_4 v2_4 h => ?_)
  refine r_iload_n C (pc := 4) dX9_girth_4 rfl 2 rfl ?_
  refine r_aload_n C (pc := 5) dX9_girth_5 rfl 0 rfl ?_
  refine r_get C (pc := 6) dX9_girth_6 gf_X9_girth_9 0 rfl rfl ?_
  refine r_icmp_ge C (pc := 9) 40 dX9_girth_9 rfl h (fun c9 h => ?_) (fun c9 h => ?_)
  · refine r_iload_n C (pc := 40) dX9_girth_40 rfl 1 rfl ?_
    exact r_iret C (pc := 41) dX9_girth_41 (hK v1_4 (wp_s h) rfl)
  · refine r_iconst C (pc := 12) dX9_girth_12 ?_
    refine r_istore_n C (pc := 13) dX9_girth_13 rfl (by decide) (L' := [(0, .ref (q 35)), (1, .int (jz v1_4)), (2, .int (jz v2_4)), (3, .int (jz 0))]) rfl ?_
    refine lq2_e (fun (v1_14 : Int) (v3_14 : Int) => WW g 0 0 (w_X9_girth (xG g) q F c_this_far) 14 [(0, .ref (q 35)), (1, .int (jz v1_14)), (2, .int (jz v2_4)), (3, .int (jz v3_14))] []) h (fun n14 hn14 v1_14 v3_14 h => ?_)
    refine r_iload_n C (pc := 14) dX9_girth_14 rfl 3 rfl ?_
    refine r_iload_n C (pc := 15) dX9_girth_15 rfl 2 rfl ?_
    refine r_icmp_ge C (pc := 16) 34 dX9_girth_16 rfl h (fun c16 h => ?_) (fun c16 h => ?_)
    · refine r_iinc C (pc := 34) dX9_girth_34 2 rfl (by decide) (L' := [(0, .ref (q 35)), (1, .int (jz v1_14)), (2, .int (jz (v2_4 + 1))), (3, .int (jz v3_14))]) rfl ?_
      refine r_goto C (pc := 37) 4 dX9_girth_37 rfl ?_
      refine r_sub [0, 1, 2] rfl ?_
      exact hn4 v1_14 (v2_4 + 1) h
    · refine r_iload_n C (pc := 19) dX9_girth_19 rfl 1 rfl ?_
      refine r_aload_n C (pc := 20) dX9_girth_20 rfl 0 rfl ?_
      refine r_iload_n C (pc := 21) dX9_girth_21 rfl 2 rfl ?_
      refine r_iload_n C (pc := 22) dX9_girth_22 rfl 3 rfl ?_
      obtain ⟨r23, e23, h⟩ := wp_b1 h
      refine b_cVi C (pc := 23) dX9_girth_23 (c_X9_d (xl g) (xG g) q F c_this_far v2_4 v3_14 r23 e23) rfl gX9_girth_X9_d ⟨rfl, rfl⟩ 2 hd_X9_d ⟨Nat.le_of_ble_eq_true rfl, Nat.le_of_ble_eq_true rfl⟩ rfl 0 rfl rfl rfl [0, 1] rfl (srt_nd 0 rfl) (ws' := w_X9_girth (xG g) q F c_this_far) (Put.m rfl rfl rfl) rfl (rest := [.int (jz v1_14)]) rfl (Nat.le_of_ble_eq_true rfl) ⟨Nat.zero_le _, Nat.zero_le _⟩ ?_
      refine r_iadd C (pc := 26) dX9_girth_26 ?_
      refine r_let h (fun x27 h => ?_)
      refine r_istore_n C (pc := 27) dX9_girth_27 rfl (by decide) (L' := [(0, .ref (q 35)), (1, .int (jz x27)), (2, .int (jz v2_4)), (3, .int (jz v3_14))]) rfl ?_
      refine r_iinc C (pc := 28) dX9_girth_28 3 rfl (by decide) (L' := [(0, .ref (q 35)), (1, .int (jz x27)), (2, .int (jz v2_4)), (3, .int (jz (v3_14 + 1)))]) rfl ?_
      refine r_goto C (pc := 31) 14 dX9_girth_31 rfl ?_
      exact hn14 x27 (v3_14 + 1) h
theorem c_X9_girth (l : Launch) (G : gG) (q : Nat → Nat) (F : Nat → Int) (c_this_far : Nat → Int) (r : Int) (hf : f_X9_girth (F 0) c_this_far = some r) : CTi l yX9_girth wsX9_girth rm_X9_girth G (w_X9_girth G q F c_this_far) [.ref (q 35)] (jz r) (w_X9_girth G q F c_this_far) := CTi_of (by decide) rfl rfl (Nat.le_of_ble_eq_true rfl) (fun g C hG hl hF => by
    subst hG
    subst hl
    exact k_X9_girth C q F c_this_far (fun x => x = r) (fun r' e => by cases e; exact hF) ⟨_, hf, rfl⟩)
