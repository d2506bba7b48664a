-- TightHullsModel.common(II)I
def f_X9_common (p1 : Int) (p2 : Int) (m_points : Int) (c_this_far : Nat → Int) (c_this_corner : Nat → Int) : Option Int := lq3 (fun (n8 : Int → Int → Int → Option Int) (v3_8 : Int) (v4_8 : Int) (v5_8 : Int) => if ltI v5_8 m_points = true then (lq3 (fun (n20 : Int → Int → Int → Option Int) (v3_20 : Int) (v4_20 : Int) (v6_20 : Int) => if ltI v5_8 v6_20 = true then (n8 v3_20 v4_20 (v5_8 + 1)) else (bd1 (f_X9_isTight (5 * p1) v5_8 v6_20 2000 c_this_far c_this_corner) (fun r39 => jn (fun (v3_80 : Int) (v4_80 : Int) => n20 v3_80 v4_80 (v6_20 + 1)) (fun (k80 : Int → Int → Option Int) => if eqI r39 0 = true then (k80 v3_20 v4_20) else (bd1 (f_X9_isTight (5 * p2) v5_8 v6_20 2000 c_this_far c_this_corner) (fun r57 => if eqI r57 0 = true then (k80 v3_20 v4_20) else (lv ((orI v4_20 (orI (shlI 1 v5_8) (shlI 1 v6_20)))) (fun x78 => k80 (v3_20 + 1) x78)))))))) 300 v3_8 v4_8 0) else (jn (fun (s0_113 : Int) => some s0_113) (fun (k113 : Int → Option Int) => if eqI v4_8 ((shlI 1 m_points) - 1) = true then (k113 (100 + v3_8)) else (k113 v3_8)))) 300 0 0 0
abbrev rm_X9_common : Room := { frames := 2, cells := 0, slots := 0, locals := 46 }
abbrev w_X9_common (G : gG) (q : Nat → Nat) (F : Nat → Int) (c_this_far : Nat → Int) (c_this_corner : Nat → Int) : va_W := [((q 35), oX9 F q), ((q 1), aI G 25 c_this_far), ((q 24), aI G 2000 c_this_corner)]
theorem hd_X9_common : yX9_common.cls = RX9 ∧ yX9_common.cls ≠ "java/lang/invoke/MethodHandle" ∧ yX9_common.cls ≠ "java/lang/invoke/VarHandle" ∧ (parseMethodDescriptor yX9_common.desc).map (fun d => d.parameters.length) = some 2 := by decide +kernel
theorem in_X9_common_X9 : ∀ w ∈ u_ws RX9 TX9 35, w ∈ wsX9_common := fun w h => List.mem_cons_of_mem _ (List.mem_append_right _ (h))
theorem gf_X9_common_9 : GF wsX9_common RX9 9 8 0 := ⟨RX9, TX9, 35, rfl, in_X9_common_X9, by decide, List.mem_of_getElem? (i := 1) rfl⟩
theorem gf_X9_common_71 : GF wsX9_common RX9 71 8 24 := ⟨RX9, TX9, 35, rfl, in_X9_common_X9, by decide, List.mem_of_getElem? (i := 2) rfl⟩
set_option maxRecDepth 100000 in
set_option maxHeartbeats 4000000 in
theorem k_X9_common {g : XC} (C : XOk g cX9_common RX9 wsX9_common rm_X9_common 7) (q : Nat → Nat) (F : Nat → Int) (c_this_far : Nat → Int) (c_this_corner : Nat → Int) (p1 : Int) (p2 : Int) (K : Int → Prop) (hK : ∀ (r : Int), K r → (narrow .int (.int (jz r)) = .int (jz r) → FinI g 0 0 (w_X9_common (xG g) q F c_this_far c_this_corner) (jz r))) (h : wp (f_X9_common p1 p2 (F 0) c_this_far c_this_corner) K) : WW g 0 0 (w_X9_common (xG g) q F c_this_far c_this_corner) 0 [(0, .ref (q 35)), (1, .int (jz p1)), (2, .int (jz p2))] [] := by
  unfold f_X9_common at h
  refine r_iconst C (pc := 0) dX9_common_0 ?_
  refine r_istore_n C (pc := 1) dX9_common_1 rfl (by decide) (L' := [(0, .ref (q 35)), (1, .int (jz p1)), (2, .int (jz p2)), (3, .int (jz 0))]) rfl ?_
  refine r_iconst C (pc := 2) dX9_common_2 ?_
  refine r_istore C (pc := 3) dX9_common_3 (by decide) (L' := [(0, .ref (q 35)), (1, .int (jz p1)), (2, .int (jz p2)), (3, .int (jz 0)), (4, .int (jz 0))]) rfl ?_
  refine r_iconst C (pc := 5) dX9_common_5 ?_
  refine r_istore C (pc := 6) dX9_common_6 (by decide) (L' := [(0, .ref (q 35)), (1, .int (jz p1)), (2, .int (jz p2)), (3, .int (jz 0)), (4, .int (jz 0)), (5, .int (jz 0))]) rfl ?_
  refine lq3_e (fun (v3_8 : Int) (v4_8 : Int) (v5_8 : Int) => WW g 0 0 (w_X9_common (xG g) q F c_this_far c_this_corner) 8 [(0, .ref (q 35)), (1, .int (jz p1)), (2, .int (jz p2)), (3, .int (jz v3_8)), (4, .int (jz v4_8)), (5, .int (jz v5_8))] []) h (fun n8 hn8 v3_8 v4_8 v5_8 h => ?_)
  refine r_iload C (pc := 8) dX9_common_8 5 rfl ?_
  refine r_aload_n C (pc := 10) dX9_common_10 rfl 0 rfl ?_
  refine r_get C (pc := 11) dX9_common_11 gf_X9_common_9 0 rfl rfl ?_
  refine r_icmp_ge C (pc := 14) 92 dX9_common_14 rfl h (fun c14 h => ?_) (fun c14 h => ?_)
  · refine r_iload C (pc := 92) dX9_common_92 4 rfl ?_
    refine r_iconst C (pc := 94) dX9_common_94 ?_
    refine r_aload_n C (pc := 95) dX9_common_95 rfl 0 rfl ?_
    refine r_get C (pc := 96) dX9_common_96 gf_X9_common_9 0 rfl rfl ?_
    refine r_ishl C (pc := 99) dX9_common_99 ?_
    refine r_iconst C (pc := 100) dX9_common_100 ?_
    refine r_isub C (pc := 101) dX9_common_101 ?_
    refine jn_e (fun (k113 : Int → Option Int) => ∀ (s0_113 : Int), wp (k113 s0_113) K → WW g 0 0 (w_X9_common (xG g) q F c_this_far c_this_corner) 113 [] [.int (jz s0_113)]) h (fun s0_113 h => ?_) (fun k113 hk113 h => ?_)
    · exact r_iret C (pc := 113) dX9_common_113 (hK s0_113 (wp_s h) rfl)
    · refine r_icmp_ne C (pc := 102) 112 dX9_common_102 rfl h (fun c102 h => ?_) (fun c102 h => ?_)
      · refine r_iload_n C (pc := 112) dX9_common_112 rfl 3 rfl ?_
        refine r_sub [] rfl ?_
        exact hk113 v3_8 h
      · refine r_bipush C (pc := 105) dX9_common_105 rfl ?_
        refine r_iload_n C (pc := 107) dX9_common_107 rfl 3 rfl ?_
        refine r_iadd C (pc := 108) dX9_common_108 ?_
        refine r_goto C (pc := 109) 113 dX9_common_109 rfl ?_
        refine r_sub [] rfl ?_
        exact hk113 (100 + v3_8) h
  · refine r_iconst C (pc := 17) dX9_common_17 ?_
    refine r_istore C (pc := 18) dX9_common_18 (by decide) (L' := [(0, .ref (q 35)), (1, .int (jz p1)), (2, .int (jz p2)), (3, .int (jz v3_8)), (4, .int (jz v4_8)), (5, .int (jz v5_8)), (6, .int (jz 0))]) rfl ?_
    refine lq3_e (fun (v3_20 : Int) (v4_20 : Int) (v6_20 : Int) => WW g 0 0 (w_X9_common (xG g) q F c_this_far c_this_corner) 20 [(0, .ref (q 35)), (1, .int (jz p1)), (2, .int (jz p2)), (3, .int (jz v3_20)), (4, .int (jz v4_20)), (5, .int (jz v5_8)), (6, .int (jz v6_20))] []) h (fun n20 hn20 v3_20 v4_20 v6_20 h => ?_)
    refine r_iload C (pc := 20) dX9_common_20 6 rfl ?_
    refine r_iload C (pc := 22) dX9_common_22 5 rfl ?_
    refine r_icmp_gt C (pc := 24) 86 dX9_common_24 rfl h (fun c24 h => ?_) (fun c24 h => ?_)
    · refine r_iinc C (pc := 86) dX9_common_86 5 rfl (by decide) (L' := [(0, .ref (q 35)), (1, .int (jz p1)), (2, .int (jz p2)), (3, .int (jz v3_20)), (4, .int (jz v4_20)), (5, .int (jz (v5_8 + 1))), (6, .int (jz v6_20))]) rfl ?_
      refine r_goto C (pc := 89) 8 dX9_common_89 rfl ?_
      refine r_sub [0, 1, 2, 3, 4, 5] rfl ?_
      exact hn8 v3_20 v4_20 (v5_8 + 1) h
    · refine r_aload_n C (pc := 27) dX9_common_27 rfl 0 rfl ?_
      refine r_aload_n C (pc := 28) dX9_common_28 rfl 0 rfl ?_
      refine r_get C (pc := 29) dX9_common_29 gf_X9_common_71 0 rfl rfl ?_
      refine r_iconst C (pc := 32) dX9_common_32 ?_
      refine r_iload_n C (pc := 33) dX9_common_33 rfl 1 rfl ?_
      refine r_imul C (pc := 34) dX9_common_34 ?_
      refine r_iload C (pc := 35) dX9_common_35 5 rfl ?_
      refine r_iload C (pc := 37) dX9_common_37 6 rfl ?_
      obtain ⟨r39, e39, h⟩ := wp_b1 h
      refine b_cVi C (pc := 39) dX9_common_39 (c_X9_isTight (xl g) (xG g) q (q 24) 2000 F c_this_far c_this_corner (5 * p1) v5_8 v6_20 r39 e39) rfl gX9_common_X9_isTight ⟨rfl, rfl⟩ 4 hd_X9_isTight ⟨Nat.le_of_ble_eq_true rfl, Nat.le_of_ble_eq_true rfl⟩ rfl 0 rfl rfl rfl [0, 1, 2] rfl (srt_nd 0 rfl) (ws' := w_X9_common (xG g) q F c_this_far c_this_corner) (Put.m rfl rfl rfl) rfl (rest := []) rfl (Nat.le_of_ble_eq_true rfl) ⟨Nat.zero_le _, Nat.zero_le _⟩ ?_
      refine jn_e (fun (k80 : Int → Int → Option Int) => ∀ (v3_80 : Int) (v4_80 : Int), wp (k80 v3_80 v4_80) K → WW g 0 0 (w_X9_common (xG g) q F c_this_far c_this_corner) 80 [(0, .ref (q 35)), (1, .int (jz p1)), (2, .int (jz p2)), (3, .int (jz v3_80)), (4, .int (jz v4_80)), (5, .int (jz v5_8)), (6, .int (jz v6_20))] []) h (fun v3_80 v4_80 h => ?_) (fun k80 hk80 h => ?_)
      · refine r_iinc C (pc := 80) dX9_common_80 6 rfl (by decide) (L' := [(0, .ref (q 35)), (1, .int (jz p1)), (2, .int (jz p2)), (3, .int (jz v3_80)), (4, .int (jz v4_80)), (5, .int (jz v5_8)), (6, .int (jz (v6_20 + 1)))]) rfl ?_
        refine r_goto C (pc := 83) 20 dX9_common_83 rfl ?_
        exact hn20 v3_80 v4_80 (v6_20 + 1) h
      · refine r_if_eq C (pc := 42) 80 dX9_common_42 rfl h (fun c42 h => ?_) (fun c42 h => ?_)
        · exact hk80 v3_20 v4_20 h
        · refine r_aload_n C (pc := 45) dX9_common_45 rfl 0 rfl ?_
          refine r_aload_n C (pc := 46) dX9_common_46 rfl 0 rfl ?_
          refine r_get C (pc := 47) dX9_common_47 gf_X9_common_71 0 rfl rfl ?_
          refine r_iconst C (pc := 50) dX9_common_50 ?_
          refine r_iload_n C (pc := 51) dX9_common_51 rfl 2 rfl ?_
          refine r_imul C (pc := 52) dX9_common_52 ?_
          refine r_iload C (pc := 53) dX9_common_53 5 rfl ?_
          refine r_iload C (pc := 55) dX9_common_55 6 rfl ?_
          obtain ⟨r57, e57, h⟩ := wp_b1 h
          refine b_cVi C (pc := 57) dX9_common_57 (c_X9_isTight (xl g) (xG g) q (q 24) 2000 F c_this_far c_this_corner (5 * p2) v5_8 v6_20 r57 e57) rfl gX9_common_X9_isTight ⟨rfl, rfl⟩ 4 hd_X9_isTight ⟨Nat.le_of_ble_eq_true rfl, Nat.le_of_ble_eq_true rfl⟩ rfl 0 rfl rfl rfl [0, 1, 2] rfl (srt_nd 0 rfl) (ws' := w_X9_common (xG g) q F c_this_far c_this_corner) (Put.m rfl rfl rfl) rfl (rest := []) rfl (Nat.le_of_ble_eq_true rfl) ⟨Nat.zero_le _, Nat.zero_le _⟩ ?_
          refine r_if_eq C (pc := 60) 80 dX9_common_60 rfl h (fun c60 h => ?_) (fun c60 h => ?_)
          · exact hk80 v3_20 v4_20 h
          · refine r_iinc C (pc := 63) dX9_common_63 3 rfl (by decide) (L' := [(0, .ref (q 35)), (1, .int (jz p1)), (2, .int (jz p2)), (3, .int (jz (v3_20 + 1))), (4, .int (jz v4_20)), (5, .int (jz v5_8)), (6, .int (jz v6_20))]) rfl ?_
            refine r_iload C (pc := 66) dX9_common_66 4 rfl ?_
            refine r_iconst C (pc := 68) dX9_common_68 ?_
            refine r_iload C (pc := 69) dX9_common_69 5 rfl ?_
            refine r_ishl C (pc := 71) dX9_common_71 ?_
            refine r_iconst C (pc := 72) dX9_common_72 ?_
            refine r_iload C (pc := 73) dX9_common_73 6 rfl ?_
            refine r_ishl C (pc := 75) dX9_common_75 ?_
            refine r_ior C (pc := 76) dX9_common_76 ?_
            refine r_ior C (pc := 77) dX9_common_77 ?_
            refine r_let h (fun x78 h => ?_)
            refine r_istore C (pc := 78) dX9_common_78 (by decide) (L' := [(0, .ref (q 35)), (1, .int (jz p1)), (2, .int (jz p2)), (3, .int (jz (v3_20 + 1))), (4, .int (jz x78)), (5, .int (jz v5_8)), (6, .int (jz v6_20))]) rfl ?_
            exact hk80 (v3_20 + 1) x78 h
theorem c_X9_common (l : Launch) (G : gG) (q : Nat → Nat) (F : Nat → Int) (c_this_far : Nat → Int) (c_this_corner : Nat → Int) (p1 : Int) (p2 : Int) (r : Int) (hf : f_X9_common p1 p2 (F 0) c_this_far c_this_corner = some r) : CTi l yX9_common wsX9_common rm_X9_common G (w_X9_common G q F c_this_far c_this_corner) [.ref (q 35), .int (jz p1), .int (jz p2)] (jz r) (w_X9_common G q F c_this_far c_this_corner) := CTi_of (by decide) rfl rfl (Nat.le_of_ble_eq_true rfl) (fun g C hG hl hF => by
    subst hG
    subst hl
    exact k_X9_common C q F c_this_far c_this_corner p1 p2 (fun x => x = r) (fun r' e => by cases e; exact hF) ⟨_, hf, rfl⟩)

-- TightHullsModel.hasAll(III)Z
def f_X9_hasAll (p1 : Int) (p2 : Int) (p3 : Int) (m_points : Int) (c_this_far : Nat → Int) (c_this_corner : Nat → Int) : Option Int := lq1 (fun (n3 : Int → Option Int) (v4_3 : Int) => if ltI v4_3 m_points = true then (lq1 (fun (n15 : Int → Option Int) (v5_15 : Int) => if ltI v4_3 v5_15 = true then (n3 (v4_3 + 1)) else (bd1 (f_X9_isTight (5 * p2) v4_3 v5_15 2000 c_this_far c_this_corner) (fun r34 => jn (n15 (v5_15 + 1)) (fun (k78 : Option Int) => if eqI r34 0 = true then k78 else (bd1 (f_X9_isTight (5 * p3) v4_3 v5_15 2000 c_this_far c_this_corner) (fun r52 => if eqI r52 0 = true then k78 else (bd1 (f_X9_isTight (5 * p1) v4_3 v5_15 2000 c_this_far c_this_corner) (fun r70 => if eqI r70 0 = true then (some 0) else k78)))))))) 300 0) else (some 1)) 300 0
abbrev rm_X9_hasAll : Room := { frames := 2, cells := 0, slots := 0, locals := 46 }
abbrev w_X9_hasAll (G : gG) (q : Nat → Nat) (F : Nat → Int) (c_this_far : Nat → Int) (c_this_corner : Nat → Int) : va_W := [((q 35), oX9 F q), ((q 1), aI G 25 c_this_far), ((q 24), aI G 2000 c_this_corner)]
theorem hd_X9_hasAll : yX9_hasAll.cls = RX9 ∧ yX9_hasAll.cls ≠ "java/lang/invoke/MethodHandle" ∧ yX9_hasAll.cls ≠ "java/lang/invoke/VarHandle" ∧ (parseMethodDescriptor yX9_hasAll.desc).map (fun d => d.parameters.length) = some 3 := by decide +kernel
theorem in_X9_hasAll_X9 : ∀ w ∈ u_ws RX9 TX9 35, w ∈ wsX9_hasAll := fun w h => List.mem_cons_of_mem _ (List.mem_append_right _ (h))
theorem gf_X9_hasAll_9 : GF wsX9_hasAll RX9 9 8 0 := ⟨RX9, TX9, 35, rfl, in_X9_hasAll_X9, by decide, List.mem_of_getElem? (i := 1) rfl⟩
theorem gf_X9_hasAll_71 : GF wsX9_hasAll RX9 71 8 24 := ⟨RX9, TX9, 35, rfl, in_X9_hasAll_X9, by decide, List.mem_of_getElem? (i := 2) rfl⟩
set_option maxRecDepth 100000 in
set_option maxHeartbeats 4000000 in
theorem k_X9_hasAll {g : XC} (C : XOk g cX9_hasAll RX9 wsX9_hasAll rm_X9_hasAll 6) (q : Nat → Nat) (F : Nat → Int) (c_this_far : Nat → Int) (c_this_corner : Nat → Int) (p1 : Int) (p2 : Int) (p3 : Int) (K : Int → Prop) (hK : ∀ (r : Int), K r → (narrow .boolean (.int (jz r)) = .int (jz r) → FinI g 0 0 (w_X9_hasAll (xG g) q F c_this_far c_this_corner) (jz r))) (h : wp (f_X9_hasAll p1 p2 p3 (F 0) c_this_far c_this_corner) K) : WW g 0 0 (w_X9_hasAll (xG g) q F c_this_far c_this_corner) 0 [(0, .ref (q 35)), (1, .int (jz p1)), (2, .int (jz p2)), (3, .int (jz p3))] [] := by
  unfold f_X9_hasAll at h
  refine r_iconst C (pc := 0) dX9_hasAll_0 ?_
  refine r_istore C (pc := 1) dX9_hasAll_1 (by decide) (L' := [(0, .ref (q 35)), (1, .int (jz p1)), (2, .int (jz p2)), (3, .int (jz p3)), (4, .int (jz 0))]) rfl ?_
  refine lq1_e (fun (v4_3 : Int) => WW g 0 0 (w_X9_hasAll (xG g) q F c_this_far c_this_corner) 3 [(0, .ref (q 35)), (1, .int (jz p1)), (2, .int (jz p2)), (3, .int (jz p3)), (4, .int (jz v4_3))] []) h (fun n3 hn3 v4_3 h => ?_)
  refine r_iload C (pc := 3) dX9_hasAll_3 4 rfl ?_
  refine r_aload_n C (pc := 5) dX9_hasAll_5 rfl 0 rfl ?_
  refine r_get C (pc := 6) dX9_hasAll_6 gf_X9_hasAll_9 0 rfl rfl ?_
  refine r_icmp_ge C (pc := 9) 90 dX9_hasAll_9 rfl h (fun c9 h => ?_) (fun c9 h => ?_)
  · refine r_iconst C (pc := 90) dX9_hasAll_90 ?_
    exact r_iret C (pc := 91) dX9_hasAll_91 (hK 1 (wp_s h) (nB rfl).1)
  · refine r_iconst C (pc := 12) dX9_hasAll_12 ?_
    refine r_istore C (pc := 13) dX9_hasAll_13 (by decide) (L' := [(0, .ref (q 35)), (1, .int (jz p1)), (2, .int (jz p2)), (3, .int (jz p3)), (4, .int (jz v4_3)), (5, .int (jz 0))]) rfl ?_
    refine lq1_e (fun (v5_15 : Int) => WW g 0 0 (w_X9_hasAll (xG g) q F c_this_far c_this_corner) 15 [(0, .ref (q 35)), (1, .int (jz p1)), (2, .int (jz p2)), (3, .int (jz p3)), (4, .int (jz v4_3)), (5, .int (jz v5_15))] []) h (fun n15 hn15 v5_15 h => ?_)
    refine r_iload C (pc := 15) dX9_hasAll_15 5 rfl ?_
    refine r_iload C (pc := 17) dX9_hasAll_17 4 rfl ?_
    refine r_icmp_gt C (pc := 19) 84 dX9_hasAll_19 rfl h (fun c19 h => ?_) (fun c19 h => ?_)
    · refine r_iinc C (pc := 84) dX9_hasAll_84 4 rfl (by decide) (L' := [(0, .ref (q 35)), (1, .int (jz p1)), (2, .int (jz p2)), (3, .int (jz p3)), (4, .int (jz (v4_3 + 1))), (5, .int (jz v5_15))]) rfl ?_
      refine r_goto C (pc := 87) 3 dX9_hasAll_87 rfl ?_
      refine r_sub [0, 1, 2, 3, 4] rfl ?_
      exact hn3 (v4_3 + 1) h
    · refine r_aload_n C (pc := 22) dX9_hasAll_22 rfl 0 rfl ?_
      refine r_aload_n C (pc := 23) dX9_hasAll_23 rfl 0 rfl ?_
      refine r_get C (pc := 24) dX9_hasAll_24 gf_X9_hasAll_71 0 rfl rfl ?_
      refine r_iconst C (pc := 27) dX9_hasAll_27 ?_
      refine r_iload_n C (pc := 28) dX9_hasAll_28 rfl 2 rfl ?_
      refine r_imul C (pc := 29) dX9_hasAll_29 ?_
      refine r_iload C (pc := 30) dX9_hasAll_30 4 rfl ?_
      refine r_iload C (pc := 32) dX9_hasAll_32 5 rfl ?_
      obtain ⟨r34, e34, h⟩ := wp_b1 h
      refine b_cVi C (pc := 34) dX9_hasAll_34 (c_X9_isTight (xl g) (xG g) q (q 24) 2000 F c_this_far c_this_corner (5 * p2) v4_3 v5_15 r34 e34) rfl gX9_hasAll_X9_isTight ⟨rfl, rfl⟩ 4 hd_X9_isTight ⟨Nat.le_of_ble_eq_true rfl, Nat.le_of_ble_eq_true rfl⟩ rfl 0 rfl rfl rfl [0, 1, 2] rfl (srt_nd 0 rfl) (ws' := w_X9_hasAll (xG g) q F c_this_far c_this_corner) (Put.m rfl rfl rfl) rfl (rest := []) rfl (Nat.le_of_ble_eq_true rfl) ⟨Nat.zero_le _, Nat.zero_le _⟩ ?_
      refine jn_e (fun (k78 : Option Int) => wp (k78) K → WW g 0 0 (w_X9_hasAll (xG g) q F c_this_far c_this_corner) 78 [(0, .ref (q 35)), (1, .int (jz p1)), (2, .int (jz p2)), (3, .int (jz p3)), (4, .int (jz v4_3)), (5, .int (jz v5_15))] []) h (fun h => ?_) (fun k78 hk78 h => ?_)
      · refine r_iinc C (pc := 78) dX9_hasAll_78 5 rfl (by decide) (L' := [(0, .ref (q 35)), (1, .int (jz p1)), (2, .int (jz p2)), (3, .int (jz p3)), (4, .int (jz v4_3)), (5, .int (jz (v5_15 + 1)))]) rfl ?_
        refine r_goto C (pc := 81) 15 dX9_hasAll_81 rfl ?_
        exact hn15 (v5_15 + 1) h
      · refine r_if_eq C (pc := 37) 78 dX9_hasAll_37 rfl h (fun c37 h => ?_) (fun c37 h => ?_)
        · exact hk78 h
        · refine r_aload_n C (pc := 40) dX9_hasAll_40 rfl 0 rfl ?_
          refine r_aload_n C (pc := 41) dX9_hasAll_41 rfl 0 rfl ?_
          refine r_get C (pc := 42) dX9_hasAll_42 gf_X9_hasAll_71 0 rfl rfl ?_
          refine r_iconst C (pc := 45) dX9_hasAll_45 ?_
          refine r_iload_n C (pc := 46) dX9_hasAll_46 rfl 3 rfl ?_
          refine r_imul C (pc := 47) dX9_hasAll_47 ?_
          refine r_iload C (pc := 48) dX9_hasAll_48 4 rfl ?_
          refine r_iload C (pc := 50) dX9_hasAll_50 5 rfl ?_
          obtain ⟨r52, e52, h⟩ := wp_b1 h
          refine b_cVi C (pc := 52) dX9_hasAll_52 (c_X9_isTight (xl g) (xG g) q (q 24) 2000 F c_this_far c_this_corner (5 * p3) v4_3 v5_15 r52 e52) rfl gX9_hasAll_X9_isTight ⟨rfl, rfl⟩ 4 hd_X9_isTight ⟨Nat.le_of_ble_eq_true rfl, Nat.le_of_ble_eq_true rfl⟩ rfl 0 rfl rfl rfl [0, 1, 2] rfl (srt_nd 0 rfl) (ws' := w_X9_hasAll (xG g) q F c_this_far c_this_corner) (Put.m rfl rfl rfl) rfl (rest := []) rfl (Nat.le_of_ble_eq_true rfl) ⟨Nat.zero_le _, Nat.zero_le _⟩ ?_
          refine r_if_eq C (pc := 55) 78 dX9_hasAll_55 rfl h (fun c55 h => ?_) (fun c55 h => ?_)
          · exact hk78 h
          · refine r_aload_n C (pc := 58) dX9_hasAll_58 rfl 0 rfl ?_
            refine r_aload_n C (pc := 59) dX9_hasAll_59 rfl 0 rfl ?_
            refine r_get C (pc := 60) dX9_hasAll_60 gf_X9_hasAll_71 0 rfl rfl ?_
            refine r_iconst C (pc := 63) dX9_hasAll_63 ?_
            refine r_iload_n C (pc := 64) dX9_hasAll_64 rfl 1 rfl ?_
            refine r_imul C (pc := 65) dX9_hasAll_65 ?_
            refine r_iload C (pc := 66) dX9_hasAll_66 4 rfl ?_
            refine r_iload C (pc := 68) dX9_hasAll_68 5 rfl ?_
            obtain ⟨r70, e70, h⟩ := wp_b1 h
            refine b_cVi C (pc := 70) dX9_hasAll_70 (c_X9_isTight (xl g) (xG g) q (q 24) 2000 F c_this_far c_this_corner (5 * p1) v4_3 v5_15 r70 e70) rfl gX9_hasAll_X9_isTight ⟨rfl, rfl⟩ 4 hd_X9_isTight ⟨Nat.le_of_ble_eq_true rfl, Nat.le_of_ble_eq_true rfl⟩ rfl 0 rfl rfl rfl [0, 1, 2] rfl (srt_nd 0 rfl) (ws' := w_X9_hasAll (xG g) q F c_this_far c_this_corner) (Put.m rfl rfl rfl) rfl (rest := []) rfl (Nat.le_of_ble_eq_true rfl) ⟨Nat.zero_le _, Nat.zero_le _⟩ ?_
            refine r_if_ne C (pc := 73) 78 dX9_hasAll_73 rfl h (fun c73 h => ?_) (fun c73 h => ?_)
            · exact hk78 h
            · refine r_iconst C (pc := 76) dX9_hasAll_76 ?_
              exact r_iret C (pc := 77) dX9_hasAll_77 (hK 0 (wp_s h) (nB rfl).1)
theorem c_X9_hasAll (l : Launch) (G : gG) (q : Nat → Nat) (F : Nat → Int) (c_this_far : Nat → Int) (c_this_corner : Nat → Int) (p1 : Int) (p2 : Int) (p3 : Int) (r : Int) (hf : f_X9_hasAll p1 p2 p3 (F 0) c_this_far c_this_corner = some r) : CTi l yX9_hasAll wsX9_hasAll rm_X9_hasAll G (w_X9_hasAll G q F c_this_far c_this_corner) [.ref (q 35), .int (jz p1), .int (jz p2), .int (jz p3)] (jz r) (w_X9_hasAll G q F c_this_far c_this_corner) := CTi_of (by decide) rfl rfl (Nat.le_of_ble_eq_true rfl) (fun g C hG hl hF => by
    subst hG
    subst hl
    exact k_X9_hasAll C q F c_this_far c_this_corner p1 p2 p3 (fun x => x = r) (fun r' e => by cases e; exact hF) ⟨_, hf, rfl⟩)

-- TightHullsModel.areBeside(II)Z
def f_X9_areBeside (p1 : Int) (p2 : Int) (m_points : Int) (m_corners : Int) (c_this_far : Nat → Int) (c_this_corner : Nat → Int) : Option Int := jn (some 0) (fun (k16 : Option Int) => if eqI p1 p2 = true then k16 else (bd1 (f_X9_common p1 p2 m_points c_this_far c_this_corner) (fun r8 => if ltI r8 100 = true then k16 else (lq1 (fun (n20 : Int → Option Int) (v3_20 : Int) => if ltI v3_20 m_corners = true then (jn (n20 (v3_20 + 1)) (fun (k50 : Option Int) => if eqI v3_20 p1 = true then k50 else (if eqI v3_20 p2 = true then k50 else (bd1 (f_X9_hasAll v3_20 p1 p2 m_points c_this_far c_this_corner) (fun r42 => if eqI r42 0 = true then k50 else (some 0)))))) else (some 1)) 300 0))))
abbrev rm_X9_areBeside : Room := { frames := 3, cells := 0, slots := 0, locals := 72 }
abbrev w_X9_areBeside (G : gG) (q : Nat → Nat) (F : Nat → Int) (c_this_far : Nat → Int) (c_this_corner : Nat → Int) : va_W := [((q 35), oX9 F q), ((q 1), aI G 25 c_this_far), ((q 24), aI G 2000 c_this_corner)]
theorem hd_X9_areBeside : yX9_areBeside.cls = RX9 ∧ yX9_areBeside.cls ≠ "java/lang/invoke/MethodHandle" ∧ yX9_areBeside.cls ≠ "java/lang/invoke/VarHandle" ∧ (parseMethodDescriptor yX9_areBeside.desc).map (fun d => d.parameters.length) = some 2 := by decide +kernel
theorem in_X9_areBeside_X9 : ∀ w ∈ u_ws RX9 TX9 35, w ∈ wsX9_areBeside := fun w h => List.mem_cons_of_mem _ (List.mem_append_right _ (h))
theorem gf_X9_areBeside_130 : GF wsX9_areBeside RX9 130 8 23 := ⟨RX9, TX9, 35, rfl, in_X9_areBeside_X9, by decide, List.mem_of_getElem? (i := 1) rfl⟩
set_option maxRecDepth 100000 in
set_option maxHeartbeats 4000000 in
theorem k_X9_areBeside {g : XC} (C : XOk g cX9_areBeside RX9 wsX9_areBeside rm_X9_areBeside 4) (q : Nat → Nat) (F : Nat → Int) (c_this_far : Nat → Int) (c_this_corner : Nat → Int) (p1 : Int) (p2 : Int) (K : Int → Prop) (hK : ∀ (r : Int), K r → (narrow .boolean (.int (jz r)) = .int (jz r) → FinI g 0 0 (w_X9_areBeside (xG g) q F c_this_far c_this_corner) (jz r))) (h : wp (f_X9_areBeside p1 p2 (F 0) (F 23) c_this_far c_this_corner) K) : WW g 0 0 (w_X9_areBeside (xG g) q F c_this_far c_this_corner) 0 [(0, .ref (q 35)), (1, .int (jz p1)), (2, .int (jz p2))] [] := by
  unfold f_X9_areBeside at h
  refine r_iload_n C (pc := 0) dX9_areBeside_0 rfl 1 rfl ?_
  refine r_iload_n C (pc := 1) dX9_areBeside_1 rfl 2 rfl ?_
  refine jn_e (fun (k16 : Option Int) => wp (k16) K → WW g 0 0 (w_X9_areBeside (xG g) q F c_this_far c_this_corner) 16 [] []) h (fun h => ?_) (fun k16 hk16 h => ?_)
  · refine r_iconst C (pc := 16) dX9_areBeside_16 ?_
    exact r_iret C (pc := 17) dX9_areBeside_17 (hK 0 (wp_s h) (nB rfl).1)
  · refine r_icmp_eq C (pc := 2) 16 dX9_areBeside_2 rfl h (fun c2 h => ?_) (fun c2 h => ?_)
    · refine r_sub [] rfl ?_
      exact hk16 h
    · refine r_aload_n C (pc := 5) dX9_areBeside_5 rfl 0 rfl ?_
      refine r_iload_n C (pc := 6) dX9_areBeside_6 rfl 1 rfl ?_
      refine r_iload_n C (pc := 7) dX9_areBeside_7 rfl 2 rfl ?_
      obtain ⟨r8, e8, h⟩ := wp_b1 h
      refine b_cVi C (pc := 8) dX9_areBeside_8 (c_X9_common (xl g) (xG g) q F c_this_far c_this_corner p1 p2 r8 e8) rfl gX9_areBeside_X9_common ⟨rfl, rfl⟩ 2 hd_X9_common ⟨Nat.le_of_ble_eq_true rfl, Nat.le_of_ble_eq_true rfl⟩ rfl 0 rfl rfl rfl [0, 1, 2] rfl (srt_nd 0 rfl) (ws' := w_X9_areBeside (xG g) q F c_this_far c_this_corner) (Put.m rfl rfl rfl) rfl (rest := []) rfl (Nat.le_of_ble_eq_true rfl) ⟨Nat.zero_le _, Nat.zero_le _⟩ ?_
      refine r_bipush C (pc := 11) dX9_areBeside_11 rfl ?_
      refine r_icmp_ge C (pc := 13) 18 dX9_areBeside_13 rfl h (fun c13 h => ?_) (fun c13 h => ?_)
      · refine r_iconst C (pc := 18) dX9_areBeside_18 ?_
        refine r_istore_n C (pc := 19) dX9_areBeside_19 rfl (by decide) (L' := [(0, .ref (q 35)), (1, .int (jz p1)), (2, .int (jz p2)), (3, .int (jz 0))]) rfl ?_
        refine lq1_e (fun (v3_20 : Int) => WW g 0 0 (w_X9_areBeside (xG g) q F c_this_far c_this_corner) 20 [(0, .ref (q 35)), (1, .int (jz p1)), (2, .int (jz p2)), (3, .int (jz v3_20))] []) h (fun n20 hn20 v3_20 h => ?_)
        refine r_iload_n C (pc := 20) dX9_areBeside_20 rfl 3 rfl ?_
        refine r_aload_n C (pc := 21) dX9_areBeside_21 rfl 0 rfl ?_
        refine r_get C (pc := 22) dX9_areBeside_22 gf_X9_areBeside_130 0 rfl rfl ?_
        refine r_icmp_ge C (pc := 25) 56 dX9_areBeside_25 rfl h (fun c25 h => ?_) (fun c25 h => ?_)
        · refine r_iconst C (pc := 56) dX9_areBeside_56 ?_
          exact r_iret C (pc := 57) dX9_areBeside_57 (hK 1 (wp_s h) (nB rfl).1)
        · refine r_iload_n C (pc := 28) dX9_areBeside_28 rfl 3 rfl ?_
          refine r_iload_n C (pc := 29) dX9_areBeside_29 rfl 1 rfl ?_
          refine jn_e (fun (k50 : Option Int) => wp (k50) K → WW g 0 0 (w_X9_areBeside (xG g) q F c_this_far c_this_corner) 50 [(0, .ref (q 35)), (1, .int (jz p1)), (2, .int (jz p2)), (3, .int (jz v3_20))] []) h (fun h => ?_) (fun k50 hk50 h => ?_)
          · refine r_iinc C (pc := 50) dX9_areBeside_50 3 rfl (by decide) (L' := [(0, .ref (q 35)), (1, .int (jz p1)), (2, .int (jz p2)), (3, .int (jz (v3_20 + 1)))]) rfl ?_
            refine r_goto C (pc := 53) 20 dX9_areBeside_53 rfl ?_
            exact hn20 (v3_20 + 1) h
          · refine r_icmp_eq C (pc := 30) 50 dX9_areBeside_30 rfl h (fun c30 h => ?_) (fun c30 h => ?_)
            · exact hk50 h
            · refine r_iload_n C (pc := 33) dX9_areBeside_33 rfl 3 rfl ?_
              refine r_iload_n C (pc := 34) dX9_areBeside_34 rfl 2 rfl ?_
              refine r_icmp_eq C (pc := 35) 50 dX9_areBeside_35 rfl h (fun c35 h => ?_) (fun c35 h => ?_)
              · exact hk50 h
              · refine r_aload_n C (pc := 38) dX9_areBeside_38 rfl 0 rfl ?_
                refine r_iload_n C (pc := 39) dX9_areBeside_39 rfl 3 rfl ?_
                refine r_iload_n C (pc := 40) dX9_areBeside_40 rfl 1 rfl ?_
                refine r_iload_n C (pc := 41) dX9_areBeside_41 rfl 2 rfl ?_
                obtain ⟨r42, e42, h⟩ := wp_b1 h
                refine b_cVi C (pc := 42) dX9_areBeside_42 (c_X9_hasAll (xl g) (xG g) q F c_this_far c_this_corner v3_20 p1 p2 r42 e42) rfl gX9_areBeside_X9_hasAll ⟨rfl, rfl⟩ 3 hd_X9_hasAll ⟨Nat.le_of_ble_eq_true rfl, Nat.le_of_ble_eq_true rfl⟩ rfl 0 rfl rfl rfl [0, 1, 2] rfl (srt_nd 0 rfl) (ws' := w_X9_areBeside (xG g) q F c_this_far c_this_corner) (Put.m rfl rfl rfl) rfl (rest := []) rfl (Nat.le_of_ble_eq_true rfl) ⟨Nat.zero_le _, Nat.zero_le _⟩ ?_
                refine r_if_eq C (pc := 45) 50 dX9_areBeside_45 rfl h (fun c45 h => ?_) (fun c45 h => ?_)
                · exact hk50 h
                · refine r_iconst C (pc := 48) dX9_areBeside_48 ?_
                  exact r_iret C (pc := 49) dX9_areBeside_49 (hK 0 (wp_s h) (nB rfl).1)
      · refine r_sub [] rfl ?_
        exact hk16 h
theorem c_X9_areBeside (l : Launch) (G : gG) (q : Nat → Nat) (F : Nat → Int) (c_this_far : Nat → Int) (c_this_corner : Nat → Int) (p1 : Int) (p2 : Int) (r : Int) (hf : f_X9_areBeside p1 p2 (F 0) (F 23) c_this_far c_this_corner = some r) : CTi l yX9_areBeside wsX9_areBeside rm_X9_areBeside G (w_X9_areBeside G q F c_this_far c_this_corner) [.ref (q 35), .int (jz p1), .int (jz p2)] (jz r) (w_X9_areBeside G q F c_this_far c_this_corner) := CTi_of (by decide) rfl rfl (Nat.le_of_ble_eq_true rfl) (fun g C hG hl hF => by
    subst hG
    subst hl
    exact k_X9_areBeside C q F c_this_far c_this_corner p1 p2 (fun x => x = r) (fun r' e => by cases e; exact hF) ⟨_, hf, rfl⟩)

-- TightHullsModel.eyeOf(I)I
def f_X9_eyeOf (p1 : Int) (m_points : Int) (c_this_far : Nat → Int) (c_this_corner : Nat → Int) : Option Int := lq1 (fun (n2 : Int → Option Int) (v2_2 : Int) => if ltI v2_2 m_points = true then (lq2 (fun (n15 : Int → Int → Option Int) (v3_15 : Int) (v4_15 : Int) => if ltI v4_15 m_points = true then (jn (fun (s0_56 : Int) => n15 s0_56 (v4_15 + 1)) (fun (k56 : Int → Option Int) => jn (k56 0) (fun (k55 : Option Int) => if eqI v3_15 0 = true then k55 else (grd (iin ((5 * p1) + v4_15) 2000) (bd1 (f_X9_d v2_2 v4_15 c_this_far) (fun r44 => if eqI (c_this_corner (ix ((5 * p1) + v4_15))) (2 * r44) = true then (k56 1) else k55)))))) else (if eqI v3_15 0 = true then (n2 (v2_2 + 1)) else (some v2_2))) 300 1 0) else (some (-5))) 300 0
abbrev rm_X9_eyeOf : Room := { frames := 1, cells := 0, slots := 0, locals := 22 }
abbrev w_X9_eyeOf (G : gG) (q : Nat → Nat) (F : Nat → Int) (c_this_far : Nat → Int) (c_this_corner : Nat → Int) : va_W := [((q 35), oX9 F q), ((q 1), aI G 25 c_this_far), ((q 24), aI G 2000 c_this_corner)]
theorem hd_X9_eyeOf : yX9_eyeOf.cls = RX9 ∧ yX9_eyeOf.cls ≠ "java/lang/invoke/MethodHandle" ∧ yX9_eyeOf.cls ≠ "java/lang/invoke/VarHandle" ∧ (parseMethodDescriptor yX9_eyeOf.desc).map (fun d => d.parameters.length) = some 1 := by decide +kernel
theorem in_X9_eyeOf_X9 : ∀ w ∈ u_ws RX9 TX9 35, w ∈ wsX9_eyeOf := fun w h => List.mem_cons_of_mem _ (List.mem_append_right _ (h))
theorem gf_X9_eyeOf_9 : GF wsX9_eyeOf RX9 9 8 0 := ⟨RX9, TX9, 35, rfl, in_X9_eyeOf_X9, by decide, List.mem_of_getElem? (i := 1) rfl⟩
theorem gf_X9_eyeOf_71 : GF wsX9_eyeOf RX9 71 8 24 := ⟨RX9, TX9, 35, rfl, in_X9_eyeOf_X9, by decide, List.mem_of_getElem? (i := 2) rfl⟩
set_option maxRecDepth 100000 in
set_option maxHeartbeats 4000000 in
theorem k_X9_eyeOf {g : XC} (C : XOk g cX9_eyeOf RX9 wsX9_eyeOf rm_X9_eyeOf 5) (q : Nat → Nat) (F : Nat → Int) (c_this_far : Nat → Int) (c_this_corner : Nat → Int) (p1 : Int) (K : Int → Prop) (hK : ∀ (r : Int), K r → (narrow .int (.int (jz r)) = .int (jz r) → FinI g 0 0 (w_X9_eyeOf (xG g) q F c_this_far c_this_corner) (jz r))) (h : wp (f_X9_eyeOf p1 (F 0) c_this_far c_this_corner) K) : WW g 0 0 (w_X9_eyeOf (xG g) q F c_this_far c_this_corner) 0 [(0, .ref (q 35)), (1, .int (jz p1))] [] := by
  unfold f_X9_eyeOf at h
  refine r_iconst C (pc := 0) dX9_eyeOf_0 ?_
  refine r_istore_n C (pc := 1) dX9_eyeOf_1 rfl (by decide) (L' := [(0, .ref (q 35)), (1, .int (jz p1)), (2, .int (jz 0))]) rfl ?_
  refine lq1_e (fun (v2_2 : Int) => WW g 0 0 (w_X9_eyeOf (xG g) q F c_this_far c_this_corner) 2 [(0, .ref (q 35)), (1, .int (jz p1)), (2, .int (jz v2_2))] []) h (fun n2 hn2 v2_2 h => ?_)
  refine r_iload_n C (pc := 2) dX9_eyeOf_2 rfl 2 rfl ?_
  refine r_aload_n C (pc := 3) dX9_eyeOf_3 rfl 0 rfl ?_
  refine r_get C (pc := 4) dX9_eyeOf_4 gf_X9_eyeOf_9 0 rfl rfl ?_
  refine r_icmp_ge C (pc := 7) 75 dX9_eyeOf_7 rfl h (fun c7 h => ?_) (fun c7 h => ?_)
  · refine r_bipush C (pc := 75) dX9_eyeOf_75 rfl ?_
    exact r_iret C (pc := 77) dX9_eyeOf_77 (hK (-5) (wp_s h) rfl)
  · refine r_iconst C (pc := 10) dX9_eyeOf_10 ?_
    refine r_istore_n C (pc := 11) dX9_eyeOf_11 rfl (by decide) (L' := [(0, .ref (q 35)), (1, .int (jz p1)), (2, .int (jz v2_2)), (3, .int (jz 1))]) rfl ?_
    refine r_iconst C (pc := 12) dX9_eyeOf_12 ?_
    refine r_istore C (pc := 13) dX9_eyeOf_13 (by decide) (L' := [(0, .ref (q 35)), (1, .int (jz p1)), (2, .int (jz v2_2)), (3, .int (jz 1)), (4, .int (jz 0))]) rfl ?_
    refine lq2_e (fun (v3_15 : Int) (v4_15 : Int) => WW g 0 0 (w_X9_eyeOf (xG g) q F c_this_far c_this_corner) 15 [(0, .ref (q 35)), (1, .int (jz p1)), (2, .int (jz v2_2)), (3, .int (jz v3_15)), (4, .int (jz v4_15))] []) h (fun n15 hn15 v3_15 v4_15 h => ?_)
    refine r_iload C (pc := 15) dX9_eyeOf_15 4 rfl ?_
    refine r_aload_n C (pc := 17) dX9_eyeOf_17 rfl 0 rfl ?_
    refine r_get C (pc := 18) dX9_eyeOf_18 gf_X9_eyeOf_9 0 rfl rfl ?_
    refine r_icmp_ge C (pc := 21) 63 dX9_eyeOf_21 rfl h (fun c21 h => ?_) (fun c21 h => ?_)
    · refine r_iload_n C (pc := 63) dX9_eyeOf_63 rfl 3 rfl ?_
      refine r_if_eq C (pc := 64) 69 dX9_eyeOf_64 rfl h (fun c64 h => ?_) (fun c64 h => ?_)
      · refine r_iinc C (pc := 69) dX9_eyeOf_69 2 rfl (by decide) (L' := [(0, .ref (q 35)), (1, .int (jz p1)), (2, .int (jz (v2_2 + 1))), (3, .int (jz v3_15)), (4, .int (jz v4_15))]) rfl ?_
        refine r_goto C (pc := 72) 2 dX9_eyeOf_72 rfl ?_
        refine r_sub [0, 1, 2] rfl ?_
        exact hn2 (v2_2 + 1) h
      · refine r_iload_n C (pc := 67) dX9_eyeOf_67 rfl 2 rfl ?_
        exact r_iret C (pc := 68) dX9_eyeOf_68 (hK v2_2 (wp_s h) rfl)
    · refine r_iload_n C (pc := 24) dX9_eyeOf_24 rfl 3 rfl ?_
      refine jn_e (fun (k56 : Int → Option Int) => ∀ (s0_56 : Int), wp (k56 s0_56) K → WW g 0 0 (w_X9_eyeOf (xG g) q F c_this_far c_this_corner) 56 [(0, .ref (q 35)), (1, .int (jz p1)), (2, .int (jz v2_2)), (4, .int (jz v4_15))] [.int (jz s0_56)]) h (fun s0_56 h => ?_) (fun k56 hk56 h => ?_)
      · refine r_istore_n C (pc := 56) dX9_eyeOf_56 rfl (by decide) (L' := [(0, .ref (q 35)), (1, .int (jz p1)), (2, .int (jz v2_2)), (3, .int (jz s0_56)), (4, .int (jz v4_15))]) rfl ?_
        refine r_iinc C (pc := 57) dX9_eyeOf_57 4 rfl (by decide) (L' := [(0, .ref (q 35)), (1, .int (jz p1)), (2, .int (jz v2_2)), (3, .int (jz s0_56)), (4, .int (jz (v4_15 + 1)))]) rfl ?_
        refine r_goto C (pc := 60) 15 dX9_eyeOf_60 rfl ?_
        exact hn15 s0_56 (v4_15 + 1) h
      · refine jn_e (fun (k55 : Option Int) => wp (k55) K → WW g 0 0 (w_X9_eyeOf (xG g) q F c_this_far c_this_corner) 55 [(0, .ref (q 35)), (1, .int (jz p1)), (2, .int (jz v2_2)), (4, .int (jz v4_15))] []) h (fun h => ?_) (fun k55 hk55 h => ?_)
        · refine r_iconst C (pc := 55) dX9_eyeOf_55 ?_
          exact hk56 0 h
        · refine r_if_eq C (pc := 25) 55 dX9_eyeOf_25 rfl h (fun c25 h => ?_) (fun c25 h => ?_)
          · refine r_sub [0, 1, 2, 4] rfl ?_
            exact hk55 h
          · refine r_aload_n C (pc := 28) dX9_eyeOf_28 rfl 0 rfl ?_
            refine r_get C (pc := 29) dX9_eyeOf_29 gf_X9_eyeOf_71 0 rfl rfl ?_
            refine r_iconst C (pc := 32) dX9_eyeOf_32 ?_
            refine r_iload_n C (pc := 33) dX9_eyeOf_33 rfl 1 rfl ?_
            refine r_imul C (pc := 34) dX9_eyeOf_34 ?_
            refine r_iload C (pc := 35) dX9_eyeOf_35 4 rfl ?_
            refine r_iadd C (pc := 37) dX9_eyeOf_37 ?_
            refine r_iald C (pc := 38) dX9_eyeOf_38 h 2 rfl (fun h => ?_)
            refine r_iconst C (pc := 39) dX9_eyeOf_39 ?_
            refine r_aload_n C (pc := 40) dX9_eyeOf_40 rfl 0 rfl ?_
            refine r_iload_n C (pc := 41) dX9_eyeOf_41 rfl 2 rfl ?_
            refine r_iload C (pc := 42) dX9_eyeOf_42 4 rfl ?_
            obtain ⟨r44, e44, h⟩ := wp_b1 h
            refine b_cVi C (pc := 44) dX9_eyeOf_44 (c_X9_d (xl g) (xG g) q F c_this_far v2_2 v4_15 r44 e44) rfl gX9_eyeOf_X9_d ⟨rfl, rfl⟩ 2 hd_X9_d ⟨Nat.le_of_ble_eq_true rfl, Nat.le_of_ble_eq_true rfl⟩ rfl 0 rfl rfl rfl [0, 1] rfl (srt_nd 0 rfl) (ws' := w_X9_eyeOf (xG g) q F c_this_far c_this_corner) (Put.m rfl rfl rfl) rfl (rest := [.int (jz 2), .int (jz (c_this_corner (ix ((5 * p1) + v4_15))))]) rfl (Nat.le_of_ble_eq_true rfl) ⟨Nat.zero_le _, Nat.zero_le _⟩ ?_
            refine r_imul C (pc := 47) dX9_eyeOf_47 ?_
            refine r_icmp_ne C (pc := 48) 55 dX9_eyeOf_48 rfl h (fun c48 h => ?_) (fun c48 h => ?_)
            · refine r_sub [0, 1, 2, 4] rfl ?_
              exact hk55 h
            · refine r_iconst C (pc := 51) dX9_eyeOf_51 ?_
              refine r_goto C (pc := 52) 56 dX9_eyeOf_52 rfl ?_
              refine r_sub [0, 1, 2, 4] rfl ?_
              exact hk56 1 h
theorem c_X9_eyeOf (l : Launch) (G : gG) (q : Nat → Nat) (F : Nat → Int) (c_this_far : Nat → Int) (c_this_corner : Nat → Int) (p1 : Int) (r : Int) (hf : f_X9_eyeOf p1 (F 0) c_this_far c_this_corner = some r) : CTi l yX9_eyeOf wsX9_eyeOf rm_X9_eyeOf G (w_X9_eyeOf G q F c_this_far c_this_corner) [.ref (q 35), .int (jz p1)] (jz r) (w_X9_eyeOf G q F c_this_far c_this_corner) := CTi_of (by decide) rfl rfl (Nat.le_of_ble_eq_true rfl) (fun g C hG hl hF => by
    subst hG
    subst hl
    exact k_X9_eyeOf C q F c_this_far c_this_corner p1 (fun x => x = r) (fun r' e => by cases e; exact hF) ⟨_, hf, rfl⟩)

-- TightHullsModel.corner(II)I
def f_X9_corner (p1 : Int) (p2 : Int) (m_points : Int) (m_corners : Int) (c_this_far : Nat → Int) (c_this_corner : Nat → Int) (c_this_named : Nat → Int) (c_this_tried : Nat → Int) : Option (Int × Int × (Nat → Int) × (Nat → Int) × (Nat → Int)) := bd5 (f_X9_isTable m_points m_corners c_this_far c_this_corner c_this_named c_this_tried) (fun r1 this_corners_1 this_corner_1 this_named_1 this_tried_1 => if eqI r1 0 = true then (some ((-3), this_corners_1, this_corner_1, this_named_1, this_tried_1)) else (bd1 (f_X9_isCorner p1 this_corners_1) (fun r12 => jn (some ((-1), this_corners_1, this_corner_1, this_named_1, this_tried_1)) (fun (k27 : Option (Int × Int × (Nat → Int) × (Nat → Int) × (Nat → Int))) => if eqI r12 0 = true then k27 else (bd1 (f_X9_in p2 0 2) (fun r21 => if eqI r21 0 = true then k27 else (if eqI p2 1 = true then (lq2 (fun (n61 : Int → Int → Option (Int × Int × (Nat → Int) × (Nat → Int) × (Nat → Int))) (v3_61 : Int) (v4_61 : Int) => if ltI v4_61 this_corners_1 = true then (bd1 (f_X9_areBeside p1 v4_61 m_points this_corners_1 c_this_far this_corner_1) (fun r75 => jn (fun (s1_86 : Int) => lv ((v3_61 + s1_86)) (fun x87 => n61 x87 (v4_61 + 1))) (fun (k86 : Int → Option (Int × Int × (Nat → Int) × (Nat → Int) × (Nat → Int))) => if eqI r75 0 = true then (k86 0) else (k86 1)))) else (some (v3_61, this_corners_1, this_corner_1, this_named_1, this_tried_1))) 300 0 0) else (jn (fun (s0_55 : Int) => some (s0_55, this_corners_1, this_corner_1, this_named_1, this_tried_1)) (fun (k55 : Int → Option (Int × Int × (Nat → Int) × (Nat → Int) × (Nat → Int))) => if eqI p2 0 = true then (bd1 (f_X9_common p1 p1 m_points c_this_far this_corner_1) (fun r41 => grd (!(eqI 100 0)) (k55 (remI r41 100)))) else (bd1 (f_X9_eyeOf p1 m_points c_this_far this_corner_1) (fun r52 => k55 r52)))))))))))
abbrev rm_X9_corner : Room := { frames := 5, cells := 0, slots := 0, locals := 115 }
abbrev w_X9_corner (G : gG) (q : Nat → Nat) (F : Nat → Int) (c_this_far : Nat → Int) (c_this_corner : Nat → Int) (c_this_named : Nat → Int) (c_this_tried : Nat → Int) : va_W := [((q 35), oX9 F q), ((q 1), aI G 25 c_this_far), ((q 24), aI G 2000 c_this_corner), ((q 25), aI G 5 c_this_named), ((q 26), aI G 6 c_this_tried)]
theorem hd_X9_corner : yX9_corner.cls = RX9 ∧ yX9_corner.cls ≠ "java/lang/invoke/MethodHandle" ∧ yX9_corner.cls ≠ "java/lang/invoke/VarHandle" ∧ (parseMethodDescriptor yX9_corner.desc).map (fun d => d.parameters.length) = some 2 := by decide +kernel
theorem in_X9_corner_X9 : ∀ w ∈ u_ws RX9 TX9 35, w ∈ wsX9_corner := fun w h => List.mem_cons_of_mem _ (List.mem_append_right _ (h))
theorem gf_X9_corner_130 : GF wsX9_corner RX9 130 8 23 := ⟨RX9, TX9, 35, rfl, in_X9_corner_X9, by decide, List.mem_of_getElem? (i := 1) rfl⟩
set_option maxRecDepth 100000 in
set_option maxHeartbeats 4000000 in
theorem k_X9_corner {g : XC} (C : XOk g cX9_corner RX9 wsX9_corner rm_X9_corner 5) (q : Nat → Nat) (F : Nat → Int) (c_this_far : Nat → Int) (c_this_corner : Nat → Int) (c_this_named : Nat → Int) (c_this_tried : Nat → Int) (p1 : Int) (p2 : Int) (K : (Int × Int × (Nat → Int) × (Nat → Int) × (Nat → Int)) → Prop) (hK : ∀ (r : Int) (o0 : Int) (o1 : Nat → Int) (o2 : Nat → Int) (o3 : Nat → Int), K (r, o0, o1, o2, o3) → (narrow .int (.int (jz r)) = .int (jz r) → FinI g 0 0 (w_X9_corner (xG g) q (up F 23 o0) c_this_far o1 o2 o3) (jz r))) (h : wp (f_X9_corner p1 p2 (F 0) (F 23) c_this_far c_this_corner c_this_named c_this_tried) K) : WW g 0 0 (w_X9_corner (xG g) q F c_this_far c_this_corner c_this_named c_this_tried) 0 [(0, .ref (q 35)), (1, .int (jz p1)), (2, .int (jz p2))] [] := by
  unfold f_X9_corner at h
  refine r_aload_n C (pc := 0) dX9_corner_0 rfl 0 rfl ?_
  obtain ⟨r1, this_corners_1, this_corner_1, this_named_1, this_tried_1, e1, h⟩ := wp_b5 h
  refine b_cVi C (pc := 1) dX9_corner_1 (c_X9_isTable (xl g) (xG g) q F c_this_far c_this_corner c_this_named c_this_tried r1 this_corners_1 this_corner_1 this_named_1 this_tried_1 e1) rfl gX9_corner_X9_isTable ⟨rfl, rfl⟩ 0 hd_X9_isTable ⟨Nat.le_of_ble_eq_true rfl, Nat.le_of_ble_eq_true rfl⟩ rfl 0 rfl rfl rfl [0, 1, 2, 3, 4] rfl (srt_nd 0 rfl) (ws' := w_X9_corner (xG g) q (up F 23 this_corners_1) c_this_far this_corner_1 this_named_1 this_tried_1) (Put.m rfl rfl rfl) rfl (rest := []) rfl (Nat.le_of_ble_eq_true rfl) ⟨Nat.zero_le _, Nat.zero_le _⟩ ?_
  refine r_if_ne C (pc := 4) 10 dX9_corner_4 rfl h (fun c4 h => ?_) (fun c4 h => ?_)
  · refine r_aload_n C (pc := 10) dX9_corner_10 rfl 0 rfl ?_
    refine r_iload_n C (pc := 11) dX9_corner_11 rfl 1 rfl ?_
    obtain ⟨r12, e12, h⟩ := wp_b1 h
    refine b_cVi C (pc := 12) dX9_corner_12 (c_X9_isCorner (xl g) (xG g) q (up F 23 this_corners_1) p1 r12 e12) rfl gX9_corner_X9_isCorner ⟨rfl, rfl⟩ 1 hd_X9_isCorner ⟨Nat.le_of_ble_eq_true rfl, Nat.le_of_ble_eq_true rfl⟩ rfl 0 rfl rfl rfl [0] rfl (srt_nd 0 rfl) (ws' := w_X9_corner (xG g) q (up F 23 this_corners_1) c_this_far this_corner_1 this_named_1 this_tried_1) (Put.m rfl rfl rfl) rfl (rest := []) rfl (Nat.le_of_ble_eq_true rfl) ⟨Nat.zero_le _, Nat.zero_le _⟩ ?_
    refine jn_e (fun (k27 : Option (Int × Int × (Nat → Int) × (Nat → Int) × (Nat → Int))) => wp (k27) K → WW g 0 0 (w_X9_corner (xG g) q (up F 23 this_corners_1) c_this_far this_corner_1 this_named_1 this_tried_1) 27 [] []) h (fun h => ?_) (fun k27 hk27 h => ?_)
    · refine r_iconst C (pc := 27) dX9_corner_27 ?_
      exact r_iret C (pc := 28) dX9_corner_28 (hK (-1) this_corners_1 this_corner_1 this_named_1 this_tried_1 (wp_s h) rfl)
    · refine r_if_eq C (pc := 15) 27 dX9_corner_15 rfl h (fun c15 h => ?_) (fun c15 h => ?_)
      · refine r_sub [] rfl ?_
        exact hk27 h
      · refine r_iload_n C (pc := 18) dX9_corner_18 rfl 2 rfl ?_
        refine r_iconst C (pc := 19) dX9_corner_19 ?_
        refine r_iconst C (pc := 20) dX9_corner_20 ?_
        obtain ⟨r21, e21, h⟩ := wp_b1 h
        refine b_cSi C (pc := 21) dX9_corner_21 (c_X9_in (xl g) (xG g) p2 0 2 r21 e21) rfl gX9_corner_X9_in ⟨rfl, rfl⟩ 3 hd_X9_in ⟨Nat.le_of_ble_eq_true rfl, Nat.le_of_ble_eq_true rfl⟩ rfl [] rfl (srt_nd 0 rfl) (ws' := w_X9_corner (xG g) q (up F 23 this_corners_1) c_this_far this_corner_1 this_named_1 this_tried_1) (Put.m rfl rfl rfl) rfl (rest := []) rfl (Nat.le_of_ble_eq_true rfl) ⟨Nat.zero_le _, Nat.zero_le _⟩ ?_
        refine r_if_ne C (pc := 24) 29 dX9_corner_24 rfl h (fun c24 h => ?_) (fun c24 h => ?_)
        · refine r_iload_n C (pc := 29) dX9_corner_29 rfl 2 rfl ?_
          refine r_iconst C (pc := 30) dX9_corner_30 ?_
          refine r_icmp_eq C (pc := 31) 56 dX9_corner_31 rfl h (fun c31 h => ?_) (fun c31 h => ?_)
          · refine r_iconst C (pc := 56) dX9_corner_56 ?_
            refine r_istore_n C (pc := 57) dX9_corner_57 rfl (by decide) (L' := [(0, .ref (q 35)), (1, .int (jz p1)), (2, .int (jz p2)), (3, .int (jz 0))]) rfl ?_
            refine r_iconst C (pc := 58) dX9_corner_58 ?_
            refine r_istore C (pc := 59) dX9_corner_59 (by decide) (L' := [(0, .ref (q 35)), (1, .int (jz p1)), (2, .int (jz p2)), (3, .int (jz 0)), (4, .int (jz 0))]) rfl ?_
            refine r_sub [0, 1, 3, 4] rfl ?_
            refine lq2_e (fun (v3_61 : Int) (v4_61 : Int) => WW g 0 0 (w_X9_corner (xG g) q (up F 23 this_corners_1) c_this_far this_corner_1 this_named_1 this_tried_1) 61 [(0, .ref (q 35)), (1, .int (jz p1)), (3, .int (jz v3_61)), (4, .int (jz v4_61))] []) h (fun n61 hn61 v3_61 v4_61 h => ?_)
            refine r_iload C (pc := 61) dX9_corner_61 3 rfl ?_
            refine r_aload_n C (pc := 63) dX9_corner_63 rfl 0 rfl ?_
            refine r_get C (pc := 64) dX9_corner_64 gf_X9_corner_130 0 rfl rfl ?_
            refine r_icmp_ge C (pc := 67) 94 dX9_corner_67 rfl h (fun c67 h => ?_) (fun c67 h => ?_)
            · refine r_iload_n C (pc := 94) dX9_corner_94 rfl 2 rfl ?_
              exact r_iret C (pc := 95) dX9_corner_95 (hK v3_61 this_corners_1 this_corner_1 this_named_1 this_tried_1 (wp_s h) rfl)
            · refine r_iload_n C (pc := 70) dX9_corner_70 rfl 2 rfl ?_
              refine r_aload_n C (pc := 71) dX9_corner_71 rfl 0 rfl ?_
              refine r_iload_n C (pc := 72) dX9_corner_72 rfl 1 rfl ?_
              refine r_iload C (pc := 73) dX9_corner_73 3 rfl ?_
              obtain ⟨r75, e75, h⟩ := wp_b1 h
              refine b_cVi C (pc := 75) dX9_corner_75 (c_X9_areBeside (xl g) (xG g) q (up F 23 this_corners_1) c_this_far this_corner_1 p1 v4_61 r75 e75) rfl gX9_corner_X9_areBeside ⟨rfl, rfl⟩ 2 hd_X9_areBeside ⟨Nat.le_of_ble_eq_true rfl, Nat.le_of_ble_eq_true rfl⟩ rfl 0 rfl rfl rfl [0, 1, 2] rfl (srt_nd 0 rfl) (ws' := w_X9_corner (xG g) q (up F 23 this_corners_1) c_this_far this_corner_1 this_named_1 this_tried_1) (Put.m rfl rfl rfl) rfl (rest := [.int (jz v3_61)]) rfl (Nat.le_of_ble_eq_true rfl) ⟨Nat.zero_le _, Nat.zero_le _⟩ ?_
              refine jn_e (fun (k86 : Int → Option (Int × Int × (Nat → Int) × (Nat → Int) × (Nat → Int))) => ∀ (s1_86 : Int), wp (k86 s1_86) K → WW g 0 0 (w_X9_corner (xG g) q (up F 23 this_corners_1) c_this_far this_corner_1 this_named_1 this_tried_1) 86 [(0, .ref (q 35)), (1, .int (jz p1)), (4, .int (jz v4_61))] [.int (jz s1_86), .int (jz v3_61)]) h (fun s1_86 h => ?_) (fun k86 hk86 h => ?_)
              · refine r_iadd C (pc := 86) dX9_corner_86 ?_
                refine r_let h (fun x87 h => ?_)
                refine r_istore_n C (pc := 87) dX9_corner_87 rfl (by decide) (L' := [(0, .ref (q 35)), (1, .int (jz p1)), (3, .int (jz x87)), (4, .int (jz v4_61))]) rfl ?_
                refine r_iinc C (pc := 88) dX9_corner_88 3 rfl (by decide) (L' := [(0, .ref (q 35)), (1, .int (jz p1)), (3, .int (jz x87)), (4, .int (jz (v4_61 + 1)))]) rfl ?_
                refine r_goto C (pc := 91) 61 dX9_corner_91 rfl ?_
                exact hn61 x87 (v4_61 + 1) h
              · refine r_if_eq C (pc := 78) 85 dX9_corner_78 rfl h (fun c78 h => ?_) (fun c78 h => ?_)
                · refine r_iconst C (pc := 85) dX9_corner_85 ?_
                  refine r_sub [0, 1, 3] rfl ?_
                  exact hk86 0 h
                · refine r_iconst C (pc := 81) dX9_corner_81 ?_
                  refine r_goto C (pc := 82) 86 dX9_corner_82 rfl ?_
                  refine r_sub [0, 1, 3] rfl ?_
                  exact hk86 1 h
          · refine r_iload_n C (pc := 34) dX9_corner_34 rfl 2 rfl ?_
            refine jn_e (fun (k55 : Int → Option (Int × Int × (Nat → Int) × (Nat → Int) × (Nat → Int))) => ∀ (s0_55 : Int), wp (k55 s0_55) K → WW g 0 0 (w_X9_corner (xG g) q (up F 23 this_corners_1) c_this_far this_corner_1 this_named_1 this_tried_1) 55 [] [.int (jz s0_55)]) h (fun s0_55 h => ?_) (fun k55 hk55 h => ?_)
            · exact r_iret C (pc := 55) dX9_corner_55 (hK s0_55 this_corners_1 this_corner_1 this_named_1 this_tried_1 (wp_s h) rfl)
            · refine r_if_ne C (pc := 35) 50 dX9_corner_35 rfl h (fun c35 h => ?_) (fun c35 h => ?_)
              · refine r_aload_n C (pc := 50) dX9_corner_50 rfl 0 rfl ?_
                refine r_iload_n C (pc := 51) dX9_corner_51 rfl 1 rfl ?_
                obtain ⟨r52, e52, h⟩ := wp_b1 h
                refine b_cVi C (pc := 52) dX9_corner_52 (c_X9_eyeOf (xl g) (xG g) q (up F 23 this_corners_1) c_this_far this_corner_1 p1 r52 e52) rfl gX9_corner_X9_eyeOf ⟨rfl, rfl⟩ 1 hd_X9_eyeOf ⟨Nat.le_of_ble_eq_true rfl, Nat.le_of_ble_eq_true rfl⟩ rfl 0 rfl rfl rfl [0, 1, 2] rfl (srt_nd 0 rfl) (ws' := w_X9_corner (xG g) q (up F 23 this_corners_1) c_this_far this_corner_1 this_named_1 this_tried_1) (Put.m rfl rfl rfl) rfl (rest := []) rfl (Nat.le_of_ble_eq_true rfl) ⟨Nat.zero_le _, Nat.zero_le _⟩ ?_
                refine r_sub [] rfl ?_
                exact hk55 r52 h
              · refine r_aload_n C (pc := 38) dX9_corner_38 rfl 0 rfl ?_
                refine r_iload_n C (pc := 39) dX9_corner_39 rfl 1 rfl ?_
                refine r_iload_n C (pc := 40) dX9_corner_40 rfl 1 rfl ?_
                obtain ⟨r41, e41, h⟩ := wp_b1 h
                refine b_cVi C (pc := 41) dX9_corner_41 (c_X9_common (xl g) (xG g) q (up F 23 this_corners_1) c_this_far this_corner_1 p1 p1 r41 e41) rfl gX9_corner_X9_common ⟨rfl, rfl⟩ 2 hd_X9_common ⟨Nat.le_of_ble_eq_true rfl, Nat.le_of_ble_eq_true rfl⟩ rfl 0 rfl rfl rfl [0, 1, 2] rfl (srt_nd 0 rfl) (ws' := w_X9_corner (xG g) q (up F 23 this_corners_1) c_this_far this_corner_1 this_named_1 this_tried_1) (Put.m rfl rfl rfl) rfl (rest := []) rfl (Nat.le_of_ble_eq_true rfl) ⟨Nat.zero_le _, Nat.zero_le _⟩ ?_
                refine r_bipush C (pc := 44) dX9_corner_44 rfl ?_
                refine r_irem C (pc := 46) dX9_corner_46 h (fun h => ?_)
                refine r_goto C (pc := 47) 55 dX9_corner_47 rfl ?_
                refine r_sub [] rfl ?_
                exact hk55 (remI r41 100) h
        · refine r_sub [] rfl ?_
          exact hk27 h
  · refine r_bipush C (pc := 7) dX9_corner_7 rfl ?_
    exact r_iret C (pc := 9) dX9_corner_9 (hK (-3) this_corners_1 this_corner_1 this_named_1 this_tried_1 (wp_s h) rfl)
theorem c_X9_corner (l : Launch) (G : gG) (q : Nat → Nat) (F : Nat → Int) (c_this_far : Nat → Int) (c_this_corner : Nat → Int) (c_this_named : Nat → Int) (c_this_tried : Nat → Int) (p1 : Int) (p2 : Int) (r : Int) (o0 : Int) (o1 : Nat → Int) (o2 : Nat → Int) (o3 : Nat → Int) (hf : f_X9_corner p1 p2 (F 0) (F 23) c_this_far c_this_corner c_this_named c_this_tried = some (r, o0, o1, o2, o3)) : CTi l yX9_corner wsX9_corner rm_X9_corner G (w_X9_corner G q F c_this_far c_this_corner c_this_named c_this_tried) [.ref (q 35), .int (jz p1), .int (jz p2)] (jz r) (w_X9_corner G q (up F 23 o0) c_this_far o1 o2 o3) := CTi_of (by decide) rfl rfl (Nat.le_of_ble_eq_true rfl) (fun g C hG hl hF => by
    subst hG
    subst hl
    exact k_X9_corner C q F c_this_far c_this_corner c_this_named c_this_tried p1 p2 (fun x => x = (r, o0, o1, o2, o3)) (fun r' o0' o1' o2' o3' e => by cases e; exact hF) ⟨_, hf, rfl⟩)

-- TightHullsModel.tight(III)I
def f_X9_tight (p1 : Int) (p2 : Int) (p3 : Int) (m_points : Int) (m_corners : Int) (c_this_far : Nat → Int) (c_this_corner : Nat → Int) (c_this_named : Nat → Int) (c_this_tried : Nat → Int) : Option (Int × Int × (Nat → Int) × (Nat → Int) × (Nat → Int)) := bd5 (f_X9_isTable m_points m_corners c_this_far c_this_corner c_this_named c_this_tried) (fun r1 this_corners_1 this_corner_1 this_named_1 this_tried_1 => if eqI r1 0 = true then (some ((-3), this_corners_1, this_corner_1, this_named_1, this_tried_1)) else (bd1 (f_X9_isCorner p1 this_corners_1) (fun r12 => jn (some ((-1), this_corners_1, this_corner_1, this_named_1, this_tried_1)) (fun (k34 : Option (Int × Int × (Nat → Int) × (Nat → Int) × (Nat → Int))) => if eqI r12 0 = true then k34 else (bd1 (f_X9_isPoint p2 m_points) (fun r20 => if eqI r20 0 = true then k34 else (bd1 (f_X9_isPoint p3 m_points) (fun r28 => if eqI r28 0 = true then k34 else (bd1 (f_X9_isTight (5 * p1) p2 p3 2000 c_this_far this_corner_1) (fun r46 => jn (fun (s0_57 : Int) => some (s0_57, this_corners_1, this_corner_1, this_named_1, this_tried_1)) (fun (k57 : Int → Option (Int × Int × (Nat → Int) × (Nat → Int) × (Nat → Int))) => if eqI r46 0 = true then (k57 0) else (k57 1))))))))))))
abbrev rm_X9_tight : Room := { frames := 5, cells := 0, slots := 0, locals := 115 }
abbrev w_X9_tight (G : gG) (q : Nat → Nat) (F : Nat → Int) (c_this_far : Nat → Int) (c_this_corner : Nat → Int) (c_this_named : Nat → Int) (c_this_tried : Nat → Int) : va_W := [((q 35), oX9 F q), ((q 1), aI G 25 c_this_far), ((q 24), aI G 2000 c_this_corner), ((q 25), aI G 5 c_this_named), ((q 26), aI G 6 c_this_tried)]
theorem hd_X9_tight : yX9_tight.cls = RX9 ∧ yX9_tight.cls ≠ "java/lang/invoke/MethodHandle" ∧ yX9_tight.cls ≠ "java/lang/invoke/VarHandle" ∧ (parseMethodDescriptor yX9_tight.desc).map (fun d => d.parameters.length) = some 3 := by decide +kernel
theorem in_X9_tight_X9 : ∀ w ∈ u_ws RX9 TX9 35, w ∈ wsX9_tight := fun w h => List.mem_cons_of_mem _ (List.mem_append_right _ (h))
theorem gf_X9_tight_71 : GF wsX9_tight RX9 71 8 24 := ⟨RX9, TX9, 35, rfl, in_X9_tight_X9, by decide, List.mem_of_getElem? (i := 1) rfl⟩
set_option maxRecDepth 100000 in
set_option maxHeartbeats 4000000 in
theorem k_X9_tight {g : XC} (C : XOk g cX9_tight RX9 wsX9_tight rm_X9_tight 4) (q : Nat → Nat) (F : Nat → Int) (c_this_far : Nat → Int) (c_this_corner : Nat → Int) (c_this_named : Nat → Int) (c_this_tried : Nat → Int) (p1 : Int) (p2 : Int) (p3 : Int) (K : (Int × Int × (Nat → Int) × (Nat → Int) × (Nat → Int)) → Prop) (hK : ∀ (r : Int) (o0 : Int) (o1 : Nat → Int) (o2 : Nat → Int) (o3 : Nat → Int), K (r, o0, o1, o2, o3) → (narrow .int (.int (jz r)) = .int (jz r) → FinI g 0 0 (w_X9_tight (xG g) q (up F 23 o0) c_this_far o1 o2 o3) (jz r))) (h : wp (f_X9_tight p1 p2 p3 (F 0) (F 23) c_this_far c_this_corner c_this_named c_this_tried) K) : WW g 0 0 (w_X9_tight (xG g) q F c_this_far c_this_corner c_this_named c_this_tried) 0 [(0, .ref (q 35)), (1, .int (jz p1)), (2, .int (jz p2)), (3, .int (jz p3))] [] := by
  unfold f_X9_tight at h
  refine r_aload_n C (pc := 0) dX9_tight_0 rfl 0 rfl ?_
  obtain ⟨r1, this_corners_1, this_corner_1, this_named_1, this_tried_1, e1, h⟩ := wp_b5 h
  refine b_cVi C (pc := 1) dX9_tight_1 (c_X9_isTable (xl g) (xG g) q F c_this_far c_this_corner c_this_named c_this_tried r1 this_corners_1 this_corner_1 this_named_1 this_tried_1 e1) rfl gX9_tight_X9_isTable ⟨rfl, rfl⟩ 0 hd_X9_isTable ⟨Nat.le_of_ble_eq_true rfl, Nat.le_of_ble_eq_true rfl⟩ rfl 0 rfl rfl rfl [0, 1, 2, 3, 4] rfl (srt_nd 0 rfl) (ws' := w_X9_tight (xG g) q (up F 23 this_corners_1) c_this_far this_corner_1 this_named_1 this_tried_1) (Put.m rfl rfl rfl) rfl (rest := []) rfl (Nat.le_of_ble_eq_true rfl) ⟨Nat.zero_le _, Nat.zero_le _⟩ ?_
  refine r_if_ne C (pc := 4) 10 dX9_tight_4 rfl h (fun c4 h => ?_) (fun c4 h => ?_)
  · refine r_aload_n C (pc := 10) dX9_tight_10 rfl 0 rfl ?_
    refine r_iload_n C (pc := 11) dX9_tight_11 rfl 1 rfl ?_
    obtain ⟨r12, e12, h⟩ := wp_b1 h
    refine b_cVi C (pc := 12) dX9_tight_12 (c_X9_isCorner (xl g) (xG g) q (up F 23 this_corners_1) p1 r12 e12) rfl gX9_tight_X9_isCorner ⟨rfl, rfl⟩ 1 hd_X9_isCorner ⟨Nat.le_of_ble_eq_true rfl, Nat.le_of_ble_eq_true rfl⟩ rfl 0 rfl rfl rfl [0] rfl (srt_nd 0 rfl) (ws' := w_X9_tight (xG g) q (up F 23 this_corners_1) c_this_far this_corner_1 this_named_1 this_tried_1) (Put.m rfl rfl rfl) rfl (rest := []) rfl (Nat.le_of_ble_eq_true rfl) ⟨Nat.zero_le _, Nat.zero_le _⟩ ?_
    refine jn_e (fun (k34 : Option (Int × Int × (Nat → Int) × (Nat → Int) × (Nat → Int))) => wp (k34) K → WW g 0 0 (w_X9_tight (xG g) q (up F 23 this_corners_1) c_this_far this_corner_1 this_named_1 this_tried_1) 34 [] []) h (fun h => ?_) (fun k34 hk34 h => ?_)
    · refine r_iconst C (pc := 34) dX9_tight_34 ?_
      exact r_iret C (pc := 35) dX9_tight_35 (hK (-1) this_corners_1 this_corner_1 this_named_1 this_tried_1 (wp_s h) rfl)
    · refine r_if_eq C (pc := 15) 34 dX9_tight_15 rfl h (fun c15 h => ?_) (fun c15 h => ?_)
      · refine r_sub [] rfl ?_
        exact hk34 h
      · refine r_aload_n C (pc := 18) dX9_tight_18 rfl 0 rfl ?_
        refine r_iload_n C (pc := 19) dX9_tight_19 rfl 2 rfl ?_
        obtain ⟨r20, e20, h⟩ := wp_b1 h
        refine b_cVi C (pc := 20) dX9_tight_20 (c_X9_isPoint (xl g) (xG g) q (up F 23 this_corners_1) p2 r20 e20) rfl gX9_tight_X9_isPoint ⟨rfl, rfl⟩ 1 hd_X9_isPoint ⟨Nat.le_of_ble_eq_true rfl, Nat.le_of_ble_eq_true rfl⟩ rfl 0 rfl rfl rfl [0] rfl (srt_nd 0 rfl) (ws' := w_X9_tight (xG g) q (up F 23 this_corners_1) c_this_far this_corner_1 this_named_1 this_tried_1) (Put.m rfl rfl rfl) rfl (rest := []) rfl (Nat.le_of_ble_eq_true rfl) ⟨Nat.zero_le _, Nat.zero_le _⟩ ?_
        refine r_if_eq C (pc := 23) 34 dX9_tight_23 rfl h (fun c23 h => ?_) (fun c23 h => ?_)
        · refine r_sub [] rfl ?_
          exact hk34 h
        · refine r_aload_n C (pc := 26) dX9_tight_26 rfl 0 rfl ?_
          refine r_iload_n C (pc := 27) dX9_tight_27 rfl 3 rfl ?_
          obtain ⟨r28, e28, h⟩ := wp_b1 h
          refine b_cVi C (pc := 28) dX9_tight_28 (c_X9_isPoint (xl g) (xG g) q (up F 23 this_corners_1) p3 r28 e28) rfl gX9_tight_X9_isPoint ⟨rfl, rfl⟩ 1 hd_X9_isPoint ⟨Nat.le_of_ble_eq_true rfl, Nat.le_of_ble_eq_true rfl⟩ rfl 0 rfl rfl rfl [0] rfl (srt_nd 0 rfl) (ws' := w_X9_tight (xG g) q (up F 23 this_corners_1) c_this_far this_corner_1 this_named_1 this_tried_1) (Put.m rfl rfl rfl) rfl (rest := []) rfl (Nat.le_of_ble_eq_true rfl) ⟨Nat.zero_le _, Nat.zero_le _⟩ ?_
          refine r_if_ne C (pc := 31) 36 dX9_tight_31 rfl h (fun c31 h => ?_) (fun c31 h => ?_)
          · refine r_aload_n C (pc := 36) dX9_tight_36 rfl 0 rfl ?_
            refine r_aload_n C (pc := 37) dX9_tight_37 rfl 0 rfl ?_
            refine r_get C (pc := 38) dX9_tight_38 gf_X9_tight_71 0 rfl rfl ?_
            refine r_iconst C (pc := 41) dX9_tight_41 ?_
            refine r_iload_n C (pc := 42) dX9_tight_42 rfl 1 rfl ?_
            refine r_imul C (pc := 43) dX9_tight_43 ?_
            refine r_iload_n C (pc := 44) dX9_tight_44 rfl 2 rfl ?_
            refine r_iload_n C (pc := 45) dX9_tight_45 rfl 3 rfl ?_
            obtain ⟨r46, e46, h⟩ := wp_b1 h
            refine b_cVi C (pc := 46) dX9_tight_46 (c_X9_isTight (xl g) (xG g) q (q 24) 2000 (up F 23 this_corners_1) c_this_far this_corner_1 (5 * p1) p2 p3 r46 e46) rfl gX9_tight_X9_isTight ⟨rfl, rfl⟩ 4 hd_X9_isTight ⟨Nat.le_of_ble_eq_true rfl, Nat.le_of_ble_eq_true rfl⟩ rfl 0 rfl rfl rfl [0, 1, 2] rfl (srt_nd 0 rfl) (ws' := w_X9_tight (xG g) q (up F 23 this_corners_1) c_this_far this_corner_1 this_named_1 this_tried_1) (Put.m rfl rfl rfl) rfl (rest := []) rfl (Nat.le_of_ble_eq_true rfl) ⟨Nat.zero_le _, Nat.zero_le _⟩ ?_
            refine jn_e (fun (k57 : Int → Option (Int × Int × (Nat → Int) × (Nat → Int) × (Nat → Int))) => ∀ (s0_57 : Int), wp (k57 s0_57) K → WW g 0 0 (w_X9_tight (xG g) q (up F 23 this_corners_1) c_this_far this_corner_1 this_named_1 this_tried_1) 57 [] [.int (jz s0_57)]) h (fun s0_57 h => ?_) (fun k57 hk57 h => ?_)
            · exact r_iret C (pc := 57) dX9_tight_57 (hK s0_57 this_corners_1 this_corner_1 this_named_1 this_tried_1 (wp_s h) rfl)
            · refine r_if_eq C (pc := 49) 56 dX9_tight_49 rfl h (fun c49 h => ?_) (fun c49 h => ?_)
              · refine r_iconst C (pc := 56) dX9_tight_56 ?_
                refine r_sub [] rfl ?_
                exact hk57 0 h
              · refine r_iconst C (pc := 52) dX9_tight_52 ?_
                refine r_goto C (pc := 53) 57 dX9_tight_53 rfl ?_
                refine r_sub [] rfl ?_
                exact hk57 1 h
          · refine r_sub [] rfl ?_
            exact hk34 h
  · refine r_bipush C (pc := 7) dX9_tight_7 rfl ?_
    exact r_iret C (pc := 9) dX9_tight_9 (hK (-3) this_corners_1 this_corner_1 this_named_1 this_tried_1 (wp_s h) rfl)
theorem c_X9_tight (l : Launch) (G : gG) (q : Nat → Nat) (F : Nat → Int) (c_this_far : Nat → Int) (c_this_corner : Nat → Int) (c_this_named : Nat → Int) (c_this_tried : Nat → Int) (p1 : Int) (p2 : Int) (p3 : Int) (r : Int) (o0 : Int) (o1 : Nat → Int) (o2 : Nat → Int) (o3 : Nat → Int) (hf : f_X9_tight p1 p2 p3 (F 0) (F 23) c_this_far c_this_corner c_this_named c_this_tried = some (r, o0, o1, o2, o3)) : CTi l yX9_tight wsX9_tight rm_X9_tight G (w_X9_tight G q F c_this_far c_this_corner c_this_named c_this_tried) [.ref (q 35), .int (jz p1), .int (jz p2), .int (jz p3)] (jz r) (w_X9_tight G q (up F 23 o0) c_this_far o1 o2 o3) := CTi_of (by decide) rfl rfl (Nat.le_of_ble_eq_true rfl) (fun g C hG hl hF => by
    subst hG
    subst hl
    exact k_X9_tight C q F c_this_far c_this_corner c_this_named c_this_tried p1 p2 p3 (fun x => x = (r, o0, o1, o2, o3)) (fun r' o0' o1' o2' o3' e => by cases e; exact hF) ⟨_, hf, rfl⟩)

-- TightHullsModel.two(III)I
def f_X9_two (p1 : Int) (p2 : Int) (p3 : Int) (m_points : Int) (m_corners : Int) (c_this_far : Nat → Int) (c_this_corner : Nat → Int) (c_this_named : Nat → Int) (c_this_tried : Nat → Int) : Option (Int × Int × (Nat → Int) × (Nat → Int) × (Nat → Int)) := bd5 (f_X9_isTable m_points m_corners c_this_far c_this_corner c_this_named c_this_tried) (fun r1 this_corners_1 this_corner_1 this_named_1 this_tried_1 => if eqI r1 0 = true then (some ((-3), this_corners_1, this_corner_1, this_named_1, this_tried_1)) else (bd1 (f_X9_isCorner p1 this_corners_1) (fun r12 => jn (some ((-1), this_corners_1, this_corner_1, this_named_1, this_tried_1)) (fun (k35 : Option (Int × Int × (Nat → Int) × (Nat → Int) × (Nat → Int))) => if eqI r12 0 = true then k35 else (bd1 (f_X9_isCorner p2 this_corners_1) (fun r20 => if eqI r20 0 = true then k35 else (bd1 (f_X9_in p3 0 2) (fun r29 => if eqI r29 0 = true then k35 else (if ltI 0 p3 = true then (jn (fun (s0_72 : Int) => some (s0_72, this_corners_1, this_corner_1, this_named_1, this_tried_1)) (fun (k72 : Int → Option (Int × Int × (Nat → Int) × (Nat → Int) × (Nat → Int))) => if eqI p3 2 = true then (bd1 (f_X9_common p1 p2 m_points c_this_far this_corner_1) (fun r49 => grd (!(eqI 100 0)) (k72 (remI r49 100)))) else (bd1 (f_X9_areBeside p1 p2 m_points this_corners_1 c_this_far this_corner_1) (fun r61 => if eqI r61 0 = true then (k72 0) else (k72 1))))) else (lq2 (fun (n79 : Int → Int → Option (Int × Int × (Nat → Int) × (Nat → Int) × (Nat → Int))) (v4_79 : Int) (v5_79 : Int) => if ltI v5_79 m_points = true then (grd (iin ((5 * p1) + v5_79) 2000) (grd (iin ((5 * p2) + v5_79) 2000) (lv (((this_corner_1 (ix ((5 * p1) + v5_79))) - (this_corner_1 (ix ((5 * p2) + v5_79))))) (fun x111 => lv ((maxI v4_79 (maxI x111 (-x111)))) (fun x126 => n79 x126 (v5_79 + 1)))))) else (some (v4_79, this_corners_1, this_corner_1, this_named_1, this_tried_1))) 300 0 0))))))))))
abbrev rm_X9_two : Room := { frames := 5, cells := 0, slots := 0, locals := 115 }
abbrev w_X9_two (G : gG) (q : Nat → Nat) (F : Nat → Int) (c_this_far : Nat → Int) (c_this_corner : Nat → Int) (c_this_named : Nat → Int) (c_this_tried : Nat → Int) : va_W := [((q 35), oX9 F q), ((q 1), aI G 25 c_this_far), ((q 24), aI G 2000 c_this_corner), ((q 25), aI G 5 c_this_named), ((q 26), aI G 6 c_this_tried)]
theorem hd_X9_two : yX9_two.cls = RX9 ∧ yX9_two.cls ≠ "java/lang/invoke/MethodHandle" ∧ yX9_two.cls ≠ "java/lang/invoke/VarHandle" ∧ (parseMethodDescriptor yX9_two.desc).map (fun d => d.parameters.length) = some 3 := by decide +kernel
theorem in_X9_two_X9 : ∀ w ∈ u_ws RX9 TX9 35, w ∈ wsX9_two := fun w h => List.mem_cons_of_mem _ (List.mem_append_right _ (h))
theorem gf_X9_two_9 : GF wsX9_two RX9 9 8 0 := ⟨RX9, TX9, 35, rfl, in_X9_two_X9, by decide, List.mem_of_getElem? (i := 1) rfl⟩
theorem gf_X9_two_71 : GF wsX9_two RX9 71 8 24 := ⟨RX9, TX9, 35, rfl, in_X9_two_X9, by decide, List.mem_of_getElem? (i := 2) rfl⟩
theorem mm_X9_two_3 : Cond.methodLink RX9 133 Lib.Math.max.name ∈ wsX9_two := List.mem_of_getElem? (i := 3) rfl
theorem mm_X9_two_4 : Cond.static Lib.Math.max.name ∈ wsX9_two := List.mem_of_getElem? (i := 4) rfl
theorem mm_X9_two_5 : Cond.initialized "java/lang/Math" ∈ wsX9_two := List.mem_of_getElem? (i := 5) rfl
theorem mm_X9_two_6 : Cond.code Lib.Math.max.name Lib.Math.max.code 2 (some .int) ∈ wsX9_two := List.mem_of_getElem? (i := 6) rfl
set_option maxRecDepth 100000 in
set_option maxHeartbeats 4000000 in
theorem k_X9_two {g : XC} (C : XOk g cX9_two RX9 wsX9_two rm_X9_two 7) (q : Nat → Nat) (F : Nat → Int) (c_this_far : Nat → Int) (c_this_corner : Nat → Int) (c_this_named : Nat → Int) (c_this_tried : Nat → Int) (p1 : Int) (p2 : Int) (p3 : Int) (K : (Int × Int × (Nat → Int) × (Nat → Int) × (Nat → Int)) → Prop) (hK : ∀ (r : Int) (o0 : Int) (o1 : Nat → Int) (o2 : Nat → Int) (o3 : Nat → Int), K (r, o0, o1, o2, o3) → (narrow .int (.int (jz r)) = .int (jz r) → FinI g 0 0 (w_X9_two (xG g) q (up F 23 o0) c_this_far o1 o2 o3) (jz r))) (h : wp (f_X9_two p1 p2 p3 (F 0) (F 23) c_this_far c_this_corner c_this_named c_this_tried) K) : WW g 0 0 (w_X9_two (xG g) q F c_this_far c_this_corner c_this_named c_this_tried) 0 [(0, .ref (q 35)), (1, .int (jz p1)), (2, .int (jz p2)), (3, .int (jz p3))] [] := by
  unfold f_X9_two at h
  refine r_aload_n C (pc := 0) dX9_two_0 rfl 0 rfl ?_
  obtain ⟨r1, this_corners_1, this_corner_1, this_named_1, this_tried_1, e1, h⟩ := wp_b5 h
  refine b_cVi C (pc := 1) dX9_two_1 (c_X9_isTable (xl g) (xG g) q F c_this_far c_this_corner c_this_named c_this_tried r1 this_corners_1 this_corner_1 this_named_1 this_tried_1 e1) rfl gX9_two_X9_isTable ⟨rfl, rfl⟩ 0 hd_X9_isTable ⟨Nat.le_of_ble_eq_true rfl, Nat.le_of_ble_eq_true rfl⟩ rfl 0 rfl rfl rfl [0, 1, 2, 3, 4] rfl (srt_nd 0 rfl) (ws' := w_X9_two (xG g) q (up F 23 this_corners_1) c_this_far this_corner_1 this_named_1 this_tried_1) (Put.m rfl rfl rfl) rfl (rest := []) rfl (Nat.le_of_ble_eq_true rfl) ⟨Nat.zero_le _, Nat.zero_le _⟩ ?_
  refine r_if_ne C (pc := 4) 10 dX9_two_4 rfl h (fun c4 h => ?_) (fun c4 h => ?_)
  · refine r_aload_n C (pc := 10) dX9_two_10 rfl 0 rfl ?_
    refine r_iload_n C (pc := 11) dX9_two_11 rfl 1 rfl ?_
    obtain ⟨r12, e12, h⟩ := wp_b1 h
    refine b_cVi C (pc := 12) dX9_two_12 (c_X9_isCorner (xl g) (xG g) q (up F 23 this_corners_1) p1 r12 e12) rfl gX9_two_X9_isCorner ⟨rfl, rfl⟩ 1 hd_X9_isCorner ⟨Nat.le_of_ble_eq_true rfl, Nat.le_of_ble_eq_true rfl⟩ rfl 0 rfl rfl rfl [0] rfl (srt_nd 0 rfl) (ws' := w_X9_two (xG g) q (up F 23 this_corners_1) c_this_far this_corner_1 this_named_1 this_tried_1) (Put.m rfl rfl rfl) rfl (rest := []) rfl (Nat.le_of_ble_eq_true rfl) ⟨Nat.zero_le _, Nat.zero_le _⟩ ?_
    refine jn_e (fun (k35 : Option (Int × Int × (Nat → Int) × (Nat → Int) × (Nat → Int))) => wp (k35) K → WW g 0 0 (w_X9_two (xG g) q (up F 23 this_corners_1) c_this_far this_corner_1 this_named_1 this_tried_1) 35 [] []) h (fun h => ?_) (fun k35 hk35 h => ?_)
    · refine r_iconst C (pc := 35) dX9_two_35 ?_
      exact r_iret C (pc := 36) dX9_two_36 (hK (-1) this_corners_1 this_corner_1 this_named_1 this_tried_1 (wp_s h) rfl)
    · refine r_if_eq C (pc := 15) 35 dX9_two_15 rfl h (fun c15 h => ?_) (fun c15 h => ?_)
      · refine r_sub [] rfl ?_
        exact hk35 h
      · refine r_aload_n C (pc := 18) dX9_two_18 rfl 0 rfl ?_
        refine r_iload_n C (pc := 19) dX9_two_19 rfl 2 rfl ?_
        obtain ⟨r20, e20, h⟩ := wp_b1 h
        refine b_cVi C (pc := 20) dX9_two_20 (c_X9_isCorner (xl g) (xG g) q (up F 23 this_corners_1) p2 r20 e20) rfl gX9_two_X9_isCorner ⟨rfl, rfl⟩ 1 hd_X9_isCorner ⟨Nat.le_of_ble_eq_true rfl, Nat.le_of_ble_eq_true rfl⟩ rfl 0 rfl rfl rfl [0] rfl (srt_nd 0 rfl) (ws' := w_X9_two (xG g) q (up F 23 this_corners_1) c_this_far this_corner_1 this_named_1 this_tried_1) (Put.m rfl rfl rfl) rfl (rest := []) rfl (Nat.le_of_ble_eq_true rfl) ⟨Nat.zero_le _, Nat.zero_le _⟩ ?_
        refine r_if_eq C (pc := 23) 35 dX9_two_23 rfl h (fun c23 h => ?_) (fun c23 h => ?_)
        · refine r_sub [] rfl ?_
          exact hk35 h
        · refine r_iload_n C (pc := 26) dX9_two_26 rfl 3 rfl ?_
          refine r_iconst C (pc := 27) dX9_two_27 ?_
          refine r_iconst C (pc := 28) dX9_two_28 ?_
          obtain ⟨r29, e29, h⟩ := wp_b1 h
          refine b_cSi C (pc := 29) dX9_two_29 (c_X9_in (xl g) (xG g) p3 0 2 r29 e29) rfl gX9_two_X9_in ⟨rfl, rfl⟩ 3 hd_X9_in ⟨Nat.le_of_ble_eq_true rfl, Nat.le_of_ble_eq_true rfl⟩ rfl [] rfl (srt_nd 0 rfl) (ws' := w_X9_two (xG g) q (up F 23 this_corners_1) c_this_far this_corner_1 this_named_1 this_tried_1) (Put.m rfl rfl rfl) rfl (rest := []) rfl (Nat.le_of_ble_eq_true rfl) ⟨Nat.zero_le _, Nat.zero_le _⟩ ?_
          refine r_if_ne C (pc := 32) 37 dX9_two_32 rfl h (fun c32 h => ?_) (fun c32 h => ?_)
          · refine r_iload_n C (pc := 37) dX9_two_37 rfl 3 rfl ?_
            refine r_if_le C (pc := 38) 73 dX9_two_38 rfl h (fun c38 h => ?_) (fun c38 h => ?_)
            · refine r_iconst C (pc := 73) dX9_two_73 ?_
              refine r_istore C (pc := 74) dX9_two_74 (by decide) (L' := [(0, .ref (q 35)), (1, .int (jz p1)), (2, .int (jz p2)), (3, .int (jz p3)), (4, .int (jz 0))]) rfl ?_
              refine r_iconst C (pc := 76) dX9_two_76 ?_
              refine r_istore C (pc := 77) dX9_two_77 (by decide) (L' := [(0, .ref (q 35)), (1, .int (jz p1)), (2, .int (jz p2)), (3, .int (jz p3)), (4, .int (jz 0)), (5, .int (jz 0))]) rfl ?_
              refine r_sub [0, 1, 2, 4, 5] rfl ?_
              refine lq2_e (fun (v4_79 : Int) (v5_79 : Int) => WW g 0 0 (w_X9_two (xG g) q (up F 23 this_corners_1) c_this_far this_corner_1 this_named_1 this_tried_1) 79 [(0, .ref (q 35)), (1, .int (jz p1)), (2, .int (jz p2)), (4, .int (jz v4_79)), (5, .int (jz v5_79))] []) h (fun n79 hn79 v4_79 v5_79 h => ?_)
              refine r_iload C (pc := 79) dX9_two_79 4 rfl ?_
              refine r_aload_n C (pc := 81) dX9_two_81 rfl 0 rfl ?_
              refine r_get C (pc := 82) dX9_two_82 gf_X9_two_9 0 rfl rfl ?_
              refine r_icmp_ge C (pc := 85) 134 dX9_two_85 rfl h (fun c85 h => ?_) (fun c85 h => ?_)
              · refine r_iload C (pc := 134) dX9_two_134 3 rfl ?_
                exact r_iret C (pc := 136) dX9_two_136 (hK v4_79 this_corners_1 this_corner_1 this_named_1 this_tried_1 (wp_s h) rfl)
              · refine r_aload_n C (pc := 88) dX9_two_88 rfl 0 rfl ?_
                refine r_get C (pc := 89) dX9_two_89 gf_X9_two_71 0 rfl rfl ?_
                refine r_iconst C (pc := 92) dX9_two_92 ?_
                refine r_iload_n C (pc := 93) dX9_two_93 rfl 1 rfl ?_
                refine r_imul C (pc := 94) dX9_two_94 ?_
                refine r_iload C (pc := 95) dX9_two_95 4 rfl ?_
                refine r_iadd C (pc := 97) dX9_two_97 ?_
                refine r_iald C (pc := 98) dX9_two_98 h 2 rfl (fun h => ?_)
                refine r_aload_n C (pc := 99) dX9_two_99 rfl 0 rfl ?_
                refine r_get C (pc := 100) dX9_two_100 gf_X9_two_71 0 rfl rfl ?_
                refine r_iconst C (pc := 103) dX9_two_103 ?_
                refine r_iload_n C (pc := 104) dX9_two_104 rfl 2 rfl ?_
                refine r_imul C (pc := 105) dX9_two_105 ?_
                refine r_iload C (pc := 106) dX9_two_106 4 rfl ?_
                refine r_iadd C (pc := 108) dX9_two_108 ?_
                refine r_iald C (pc := 109) dX9_two_109 h 2 rfl (fun h => ?_)
                refine r_isub C (pc := 110) dX9_two_110 ?_
                refine r_let h (fun x111 h => ?_)
                refine r_istore C (pc := 111) dX9_two_111 (by decide) (L' := [(0, .ref (q 35)), (1, .int (jz p1)), (2, .int (jz p2)), (4, .int (jz v4_79)), (5, .int (jz v5_79)), (6, .int (jz x111))]) rfl ?_
                refine r_iload C (pc := 113) dX9_two_113 3 rfl ?_
                refine r_iload C (pc := 115) dX9_two_115 5 rfl ?_
                refine r_iload C (pc := 117) dX9_two_117 5 rfl ?_
                refine r_ineg C (pc := 119) dX9_two_119 ?_
                refine r_mmax C (pc := 120) dX9_two_120 mm_X9_two_3 mm_X9_two_4 mm_X9_two_5 mm_X9_two_6 (Nat.le_of_ble_eq_true rfl) (Nat.le_of_ble_eq_true rfl) ⟨Nat.zero_le _, Nat.zero_le _⟩ ?_
                refine r_mmax C (pc := 123) dX9_two_123 mm_X9_two_3 mm_X9_two_4 mm_X9_two_5 mm_X9_two_6 (Nat.le_of_ble_eq_true rfl) (Nat.le_of_ble_eq_true rfl) ⟨Nat.zero_le _, Nat.zero_le _⟩ ?_
                refine r_let h (fun x126 h => ?_)
                refine r_istore C (pc := 126) dX9_two_126 (by decide) (L' := [(0, .ref (q 35)), (1, .int (jz p1)), (2, .int (jz p2)), (4, .int (jz x126)), (5, .int (jz v5_79)), (6, .int (jz x111))]) rfl ?_
                refine r_iinc C (pc := 128) dX9_two_128 4 rfl (by decide) (L' := [(0, .ref (q 35)), (1, .int (jz p1)), (2, .int (jz p2)), (4, .int (jz x126)), (5, .int (jz (v5_79 + 1))), (6, .int (jz x111))]) rfl ?_
                refine r_goto C (pc := 131) 79 dX9_two_131 rfl ?_
                refine r_sub [0, 1, 2, 3, 4] rfl ?_
                exact hn79 x126 (v5_79 + 1) h
            · refine r_iload_n C (pc := 41) dX9_two_41 rfl 3 rfl ?_
              refine r_iconst C (pc := 42) dX9_two_42 ?_
              refine jn_e (fun (k72 : Int → Option (Int × Int × (Nat → Int) × (Nat → Int) × (Nat → Int))) => ∀ (s0_72 : Int), wp (k72 s0_72) K → WW g 0 0 (w_X9_two (xG g) q (up F 23 this_corners_1) c_this_far this_corner_1 this_named_1 this_tried_1) 72 [] [.int (jz s0_72)]) h (fun s0_72 h => ?_) (fun k72 hk72 h => ?_)
              · exact r_iret C (pc := 72) dX9_two_72 (hK s0_72 this_corners_1 this_corner_1 this_named_1 this_tried_1 (wp_s h) rfl)
              · refine r_icmp_ne C (pc := 43) 58 dX9_two_43 rfl h (fun c43 h => ?_) (fun c43 h => ?_)
                · refine r_aload_n C (pc := 58) dX9_two_58 rfl 0 rfl ?_
                  refine r_iload_n C (pc := 59) dX9_two_59 rfl 1 rfl ?_
                  refine r_iload_n C (pc := 60) dX9_two_60 rfl 2 rfl ?_
                  obtain ⟨r61, e61, h⟩ := wp_b1 h
                  refine b_cVi C (pc := 61) dX9_two_61 (c_X9_areBeside (xl g) (xG g) q (up F 23 this_corners_1) c_this_far this_corner_1 p1 p2 r61 e61) rfl gX9_two_X9_areBeside ⟨rfl, rfl⟩ 2 hd_X9_areBeside ⟨Nat.le_of_ble_eq_true rfl, Nat.le_of_ble_eq_true rfl⟩ rfl 0 rfl rfl rfl [0, 1, 2] rfl (srt_nd 0 rfl) (ws' := w_X9_two (xG g) q (up F 23 this_corners_1) c_this_far this_corner_1 this_named_1 this_tried_1) (Put.m rfl rfl rfl) rfl (rest := []) rfl (Nat.le_of_ble_eq_true rfl) ⟨Nat.zero_le _, Nat.zero_le _⟩ ?_
                  refine r_if_eq C (pc := 64) 71 dX9_two_64 rfl h (fun c64 h => ?_) (fun c64 h => ?_)
                  · refine r_iconst C (pc := 71) dX9_two_71 ?_
                    refine r_sub [] rfl ?_
                    exact hk72 0 h
                  · refine r_iconst C (pc := 67) dX9_two_67 ?_
                    refine r_goto C (pc := 68) 72 dX9_two_68 rfl ?_
                    refine r_sub [] rfl ?_
                    exact hk72 1 h
                · refine r_aload_n C (pc := 46) dX9_two_46 rfl 0 rfl ?_
                  refine r_iload_n C (pc := 47) dX9_two_47 rfl 1 rfl ?_
                  refine r_iload_n C (pc := 48) dX9_two_48 rfl 2 rfl ?_
                  obtain ⟨r49, e49, h⟩ := wp_b1 h
                  refine b_cVi C (pc := 49) dX9_two_49 (c_X9_common (xl g) (xG g) q (up F 23 this_corners_1) c_this_far this_corner_1 p1 p2 r49 e49) rfl gX9_two_X9_common ⟨rfl, rfl⟩ 2 hd_X9_common ⟨Nat.le_of_ble_eq_true rfl, Nat.le_of_ble_eq_true rfl⟩ rfl 0 rfl rfl rfl [0, 1, 2] rfl (srt_nd 0 rfl) (ws' := w_X9_two (xG g) q (up F 23 this_corners_1) c_this_far this_corner_1 this_named_1 this_tried_1) (Put.m rfl rfl rfl) rfl (rest := []) rfl (Nat.le_of_ble_eq_true rfl) ⟨Nat.zero_le _, Nat.zero_le _⟩ ?_
                  refine r_bipush C (pc := 52) dX9_two_52 rfl ?_
                  refine r_irem C (pc := 54) dX9_two_54 h (fun h => ?_)
                  refine r_goto C (pc := 55) 72 dX9_two_55 rfl ?_
                  refine r_sub [] rfl ?_
                  exact hk72 (remI r49 100) h
          · refine r_sub [] rfl ?_
            exact hk35 h
  · refine r_bipush C (pc := 7) dX9_two_7 rfl ?_
    exact r_iret C (pc := 9) dX9_two_9 (hK (-3) this_corners_1 this_corner_1 this_named_1 this_tried_1 (wp_s h) rfl)
theorem c_X9_two (l : Launch) (G : gG) (q : Nat → Nat) (F : Nat → Int) (c_this_far : Nat → Int) (c_this_corner : Nat → Int) (c_this_named : Nat → Int) (c_this_tried : Nat → Int) (p1 : Int) (p2 : Int) (p3 : Int) (r : Int) (o0 : Int) (o1 : Nat → Int) (o2 : Nat → Int) (o3 : Nat → Int) (hf : f_X9_two p1 p2 p3 (F 0) (F 23) c_this_far c_this_corner c_this_named c_this_tried = some (r, o0, o1, o2, o3)) : CTi l yX9_two wsX9_two rm_X9_two G (w_X9_two G q F c_this_far c_this_corner c_this_named c_this_tried) [.ref (q 35), .int (jz p1), .int (jz p2), .int (jz p3)] (jz r) (w_X9_two G q (up F 23 o0) c_this_far o1 o2 o3) := CTi_of (by decide) rfl rfl (Nat.le_of_ble_eq_true rfl) (fun g C hG hl hF => by
    subst hG
    subst hl
    exact k_X9_two C q F c_this_far c_this_corner c_this_named c_this_tried p1 p2 p3 (fun x => x = (r, o0, o1, o2, o3)) (fun r' o0' o1' o2' o3' e => by cases e; exact hF) ⟨_, hf, rfl⟩)

-- TightHullsModel.eye(I)I
def f_X9_eye (p1 : Int) (m_points : Int) (m_corners : Int) (c_this_far : Nat → Int) (c_this_corner : Nat → Int) (c_this_named : Nat → Int) (c_this_tried : Nat → Int) : Option (Int × Int × (Nat → Int) × (Nat → Int) × (Nat → Int)) := bd5 (f_X9_isTable m_points m_corners c_this_far c_this_corner c_this_named c_this_tried) (fun r1 this_corners_1 this_corner_1 this_named_1 this_tried_1 => if eqI r1 0 = true then (some ((-3), this_corners_1, this_corner_1, this_named_1, this_tried_1)) else (bd1 (f_X9_isPoint p1 m_points) (fun r12 => if eqI r12 0 = true then (some ((-1), this_corners_1, this_corner_1, this_named_1, this_tried_1)) else (lq2 (fun (n22 : Int → (Nat → Int) → Option (Int × Int × (Nat → Int) × (Nat → Int) × (Nat → Int))) (v2_22 : Int) (this_tried_22 : Nat → Int) => if ltI v2_22 m_points = true then (bd1 (f_X9_d p1 v2_22 c_this_far) (fun r39 => lv ((2 * r39)) (fun x43 => grd (iin v2_22 6) (n22 (v2_22 + 1) (up this_tried_22 (ix v2_22) x43))))) else (lq1 (fun (n52 : Int → Option (Int × Int × (Nat → Int) × (Nat → Int) × (Nat → Int))) (v2_52 : Int) => bd1 (f_X9_compared v2_52 m_points this_corner_1 this_tried_22) (fun r54 => if eqI r54 0 = true then (some (v2_52, this_corners_1, this_corner_1, this_named_1, this_tried_22)) else (n52 (v2_52 + 1)))) 300 0)) 300 0 this_tried_1))))
abbrev rm_X9_eye : Room := { frames := 5, cells := 0, slots := 0, locals := 115 }
abbrev w_X9_eye (G : gG) (q : Nat → Nat) (F : Nat → Int) (c_this_far : Nat → Int) (c_this_corner : Nat → Int) (c_this_named : Nat → Int) (c_this_tried : Nat → Int) : va_W := [((q 35), oX9 F q), ((q 1), aI G 25 c_this_far), ((q 24), aI G 2000 c_this_corner), ((q 25), aI G 5 c_this_named), ((q 26), aI G 6 c_this_tried)]
theorem hd_X9_eye : yX9_eye.cls = RX9 ∧ yX9_eye.cls ≠ "java/lang/invoke/MethodHandle" ∧ yX9_eye.cls ≠ "java/lang/invoke/VarHandle" ∧ (parseMethodDescriptor yX9_eye.desc).map (fun d => d.parameters.length) = some 1 := by decide +kernel
theorem in_X9_eye_X9 : ∀ w ∈ u_ws RX9 TX9 35, w ∈ wsX9_eye := fun w h => List.mem_cons_of_mem _ (List.mem_append_right _ (h))
theorem gf_X9_eye_9 : GF wsX9_eye RX9 9 8 0 := ⟨RX9, TX9, 35, rfl, in_X9_eye_X9, by decide, List.mem_of_getElem? (i := 1) rfl⟩
theorem gf_X9_eye_77 : GF wsX9_eye RX9 77 8 26 := ⟨RX9, TX9, 35, rfl, in_X9_eye_X9, by decide, List.mem_of_getElem? (i := 2) rfl⟩
set_option maxRecDepth 100000 in
set_option maxHeartbeats 4000000 in
theorem k_X9_eye {g : XC} (C : XOk g cX9_eye RX9 wsX9_eye rm_X9_eye 3) (q : Nat → Nat) (F : Nat → Int) (c_this_far : Nat → Int) (c_this_corner : Nat → Int) (c_this_named : Nat → Int) (c_this_tried : Nat → Int) (p1 : Int) (K : (Int × Int × (Nat → Int) × (Nat → Int) × (Nat → Int)) → Prop) (hK : ∀ (r : Int) (o0 : Int) (o1 : Nat → Int) (o2 : Nat → Int) (o3 : Nat → Int), K (r, o0, o1, o2, o3) → (narrow .int (.int (jz r)) = .int (jz r) → FinI g 0 0 (w_X9_eye (xG g) q (up F 23 o0) c_this_far o1 o2 o3) (jz r))) (h : wp (f_X9_eye p1 (F 0) (F 23) c_this_far c_this_corner c_this_named c_this_tried) K) : WW g 0 0 (w_X9_eye (xG g) q F c_this_far c_this_corner c_this_named c_this_tried) 0 [(0, .ref (q 35)), (1, .int (jz p1))] [] := by
  unfold f_X9_eye at h
  refine r_aload_n C (pc := 0) dX9_eye_0 rfl 0 rfl ?_
  obtain ⟨r1, this_corners_1, this_corner_1, this_named_1, this_tried_1, e1, h⟩ := wp_b5 h
  refine b_cVi C (pc := 1) dX9_eye_1 (c_X9_isTable (xl g) (xG g) q F c_this_far c_this_corner c_this_named c_this_tried r1 this_corners_1 this_corner_1 this_named_1 this_tried_1 e1) rfl gX9_eye_X9_isTable ⟨rfl, rfl⟩ 0 hd_X9_isTable ⟨Nat.le_of_ble_eq_true rfl, Nat.le_of_ble_eq_true rfl⟩ rfl 0 rfl rfl rfl [0, 1, 2, 3, 4] rfl (srt_nd 0 rfl) (ws' := w_X9_eye (xG g) q (up F 23 this_corners_1) c_this_far this_corner_1 this_named_1 this_tried_1) (Put.m rfl rfl rfl) rfl (rest := []) rfl (Nat.le_of_ble_eq_true rfl) ⟨Nat.zero_le _, Nat.zero_le _⟩ ?_
  refine r_if_ne C (pc := 4) 10 dX9_eye_4 rfl h (fun c4 h => ?_) (fun c4 h => ?_)
  · refine r_aload_n C (pc := 10) dX9_eye_10 rfl 0 rfl ?_
    refine r_iload_n C (pc := 11) dX9_eye_11 rfl 1 rfl ?_
    obtain ⟨r12, e12, h⟩ := wp_b1 h
    refine b_cVi C (pc := 12) dX9_eye_12 (c_X9_isPoint (xl g) (xG g) q (up F 23 this_corners_1) p1 r12 e12) rfl gX9_eye_X9_isPoint ⟨rfl, rfl⟩ 1 hd_X9_isPoint ⟨Nat.le_of_ble_eq_true rfl, Nat.le_of_ble_eq_true rfl⟩ rfl 0 rfl rfl rfl [0] rfl (srt_nd 0 rfl) (ws' := w_X9_eye (xG g) q (up F 23 this_corners_1) c_this_far this_corner_1 this_named_1 this_tried_1) (Put.m rfl rfl rfl) rfl (rest := []) rfl (Nat.le_of_ble_eq_true rfl) ⟨Nat.zero_le _, Nat.zero_le _⟩ ?_
    refine r_if_ne C (pc := 15) 20 dX9_eye_15 rfl h (fun c15 h => ?_) (fun c15 h => ?_)
    · refine r_iconst C (pc := 20) dX9_eye_20 ?_
      refine r_istore_n C (pc := 21) dX9_eye_21 rfl (by decide) (L' := [(0, .ref (q 35)), (1, .int (jz p1)), (2, .int (jz 0))]) rfl ?_
      refine lq2_e (fun (v2_22 : Int) (this_tried_22 : Nat → Int) => WW g 0 0 (w_X9_eye (xG g) q (up F 23 this_corners_1) c_this_far this_corner_1 this_named_1 this_tried_22) 22 [(0, .ref (q 35)), (1, .int (jz p1)), (2, .int (jz v2_22))] []) h (fun n22 hn22 v2_22 this_tried_22 h => ?_)
      refine r_iload_n C (pc := 22) dX9_eye_22 rfl 2 rfl ?_
      refine r_aload_n C (pc := 23) dX9_eye_23 rfl 0 rfl ?_
      refine r_get C (pc := 24) dX9_eye_24 gf_X9_eye_9 0 rfl rfl ?_
      refine r_icmp_ge C (pc := 27) 50 dX9_eye_27 rfl h (fun c27 h => ?_) (fun c27 h => ?_)
      · refine r_iconst C (pc := 50) dX9_eye_50 ?_
        refine r_istore_n C (pc := 51) dX9_eye_51 rfl (by decide) (L' := [(0, .ref (q 35)), (1, .int (jz p1)), (2, .int (jz 0))]) rfl ?_
        refine r_sub [0, 2] rfl ?_
        refine lq1_e (fun (v2_52 : Int) => WW g 0 0 (w_X9_eye (xG g) q (up F 23 this_corners_1) c_this_far this_corner_1 this_named_1 this_tried_22) 52 [(0, .ref (q 35)), (2, .int (jz v2_52))] []) h (fun n52 hn52 v2_52 h => ?_)
        refine r_aload_n C (pc := 52) dX9_eye_52 rfl 0 rfl ?_
        refine r_iload_n C (pc := 53) dX9_eye_53 rfl 1 rfl ?_
        obtain ⟨r54, e54, h⟩ := wp_b1 h
        refine b_cVi C (pc := 54) dX9_eye_54 (c_X9_compared (xl g) (xG g) q (up F 23 this_corners_1) this_corner_1 this_tried_22 v2_52 r54 e54) rfl gX9_eye_X9_compared ⟨rfl, rfl⟩ 1 hd_X9_compared ⟨Nat.le_of_ble_eq_true rfl, Nat.le_of_ble_eq_true rfl⟩ rfl 0 rfl rfl rfl [0, 2, 4] rfl (srt_nd 0 rfl) (ws' := w_X9_eye (xG g) q (up F 23 this_corners_1) c_this_far this_corner_1 this_named_1 this_tried_22) (Put.m rfl rfl rfl) rfl (rest := []) rfl (Nat.le_of_ble_eq_true rfl) ⟨Nat.zero_le _, Nat.zero_le _⟩ ?_
        refine r_if_eq C (pc := 57) 66 dX9_eye_57 rfl h (fun c57 h => ?_) (fun c57 h => ?_)
        · refine r_iload_n C (pc := 66) dX9_eye_66 rfl 1 rfl ?_
          exact r_iret C (pc := 67) dX9_eye_67 (hK v2_52 this_corners_1 this_corner_1 this_named_1 this_tried_22 (wp_s h) rfl)
        · refine r_iinc C (pc := 60) dX9_eye_60 1 rfl (by decide) (L' := [(0, .ref (q 35)), (2, .int (jz (v2_52 + 1)))]) rfl ?_
          refine r_goto C (pc := 63) 52 dX9_eye_63 rfl ?_
          exact hn52 (v2_52 + 1) h
      · refine r_aload_n C (pc := 30) dX9_eye_30 rfl 0 rfl ?_
        refine r_get C (pc := 31) dX9_eye_31 gf_X9_eye_77 0 rfl rfl ?_
        refine r_iload_n C (pc := 34) dX9_eye_34 rfl 2 rfl ?_
        refine r_iconst C (pc := 35) dX9_eye_35 ?_
        refine r_aload_n C (pc := 36) dX9_eye_36 rfl 0 rfl ?_
        refine r_iload_n C (pc := 37) dX9_eye_37 rfl 1 rfl ?_
        refine r_iload_n C (pc := 38) dX9_eye_38 rfl 2 rfl ?_
        obtain ⟨r39, e39, h⟩ := wp_b1 h
        refine b_cVi C (pc := 39) dX9_eye_39 (c_X9_d (xl g) (xG g) q (up F 23 this_corners_1) c_this_far p1 v2_22 r39 e39) rfl gX9_eye_X9_d ⟨rfl, rfl⟩ 2 hd_X9_d ⟨Nat.le_of_ble_eq_true rfl, Nat.le_of_ble_eq_true rfl⟩ rfl 0 rfl rfl rfl [0, 1] rfl (srt_nd 0 rfl) (ws' := w_X9_eye (xG g) q (up F 23 this_corners_1) c_this_far this_corner_1 this_named_1 this_tried_22) (Put.m rfl rfl rfl) rfl (rest := [.int (jz 2), .int (jz v2_22), .ref (q 26)]) rfl (Nat.le_of_ble_eq_true rfl) ⟨Nat.zero_le _, Nat.zero_le _⟩ ?_
        refine r_imul C (pc := 42) dX9_eye_42 ?_
        refine r_let h (fun x43 h => ?_)
        refine r_iast C (pc := 43) dX9_eye_43 h 4 rfl (ws' := w_X9_eye (xG g) q (up F 23 this_corners_1) c_this_far this_corner_1 this_named_1 (up this_tried_22 (ix v2_22) x43)) rfl (fun h => ?_)
        refine r_iinc C (pc := 44) dX9_eye_44 2 rfl (by decide) (L' := [(0, .ref (q 35)), (1, .int (jz p1)), (2, .int (jz (v2_22 + 1)))]) rfl ?_
        refine r_goto C (pc := 47) 22 dX9_eye_47 rfl ?_
        exact hn22 (v2_22 + 1) (up this_tried_22 (ix v2_22) x43) h
    · refine r_iconst C (pc := 18) dX9_eye_18 ?_
      exact r_iret C (pc := 19) dX9_eye_19 (hK (-1) this_corners_1 this_corner_1 this_named_1 this_tried_1 (wp_s h) rfl)
  · refine r_bipush C (pc := 7) dX9_eye_7 rfl ?_
    exact r_iret C (pc := 9) dX9_eye_9 (hK (-3) this_corners_1 this_corner_1 this_named_1 this_tried_1 (wp_s h) rfl)
theorem c_X9_eye (l : Launch) (G : gG) (q : Nat → Nat) (F : Nat → Int) (c_this_far : Nat → Int) (c_this_corner : Nat → Int) (c_this_named : Nat → Int) (c_this_tried : Nat → Int) (p1 : Int) (r : Int) (o0 : Int) (o1 : Nat → Int) (o2 : Nat → Int) (o3 : Nat → Int) (hf : f_X9_eye p1 (F 0) (F 23) c_this_far c_this_corner c_this_named c_this_tried = some (r, o0, o1, o2, o3)) : CTi l yX9_eye wsX9_eye rm_X9_eye G (w_X9_eye G q F c_this_far c_this_corner c_this_named c_this_tried) [.ref (q 35), .int (jz p1)] (jz r) (w_X9_eye G q (up F 23 o0) c_this_far o1 o2 o3) := CTi_of (by decide) rfl rfl (Nat.le_of_ble_eq_true rfl) (fun g C hG hl hF => by
    subst hG
    subst hl
    exact k_X9_eye C q F c_this_far c_this_corner c_this_named c_this_tried p1 (fun x => x = (r, o0, o1, o2, o3)) (fun r' o0' o1' o2' o3' e => by cases e; exact hF) ⟨_, hf, rfl⟩)

-- TightHullsModel.weight(I)I
def f_X9_weight (p1 : Int) (m_points : Int) (c_this_far : Nat → Int) : Option Int := bd1 (f_X9_isSplit p1 m_points) (fun r2 => jn (fun (s0_17 : Int) => some s0_17) (fun (k17 : Int → Option Int) => if eqI r2 0 = true then (k17 (-1)) else (bd1 (f_X9_weightOf p1 m_points c_this_far) (fun r10 => k17 r10))))
abbrev rm_X9_weight : Room := { frames := 2, cells := 0, slots := 0, locals := 88 }
abbrev w_X9_weight (G : gG) (q : Nat → Nat) (F : Nat → Int) (c_this_far : Nat → Int) : va_W := [((q 35), oX9 F q), ((q 1), aI G 25 c_this_far)]
theorem hd_X9_weight : yX9_weight.cls = RX9 ∧ yX9_weight.cls ≠ "java/lang/invoke/MethodHandle" ∧ yX9_weight.cls ≠ "java/lang/invoke/VarHandle" ∧ (parseMethodDescriptor yX9_weight.desc).map (fun d => d.parameters.length) = some 1 := by decide +kernel
set_option maxRecDepth 100000 in
set_option maxHeartbeats 4000000 in
theorem k_X9_weight {g : XC} (C : XOk g cX9_weight RX9 wsX9_weight rm_X9_weight 2) (q : Nat → Nat) (F : Nat → Int) (c_this_far : Nat → Int) (p1 : Int) (K : Int → Prop) (hK : ∀ (r : Int), K r → (narrow .int (.int (jz r)) = .int (jz r) → FinI g 0 0 (w_X9_weight (xG g) q F c_this_far) (jz r))) (h : wp (f_X9_weight p1 (F 0) c_this_far) K) : WW g 0 0 (w_X9_weight (xG g) q F c_this_far) 0 [(0, .ref (q 35)), (1, .int (jz p1))] [] := by
  unfold f_X9_weight at h
  refine r_aload_n C (pc := 0) dX9_weight_0 rfl 0 rfl ?_
  refine r_iload_n C (pc := 1) dX9_weight_1 rfl 1 rfl ?_
  obtain ⟨r2, e2, h⟩ := wp_b1 h
  refine b_cVi C (pc := 2) dX9_weight_2 (c_X9_isSplit (xl g) (xG g) q F p1 r2 e2) rfl gX9_weight_X9_isSplit ⟨rfl, rfl⟩ 1 hd_X9_isSplit ⟨Nat.le_of_ble_eq_true rfl, Nat.le_of_ble_eq_true rfl⟩ rfl 0 rfl rfl rfl [0] rfl (srt_nd 0 rfl) (ws' := w_X9_weight (xG g) q F c_this_far) (Put.m rfl rfl rfl) rfl (rest := []) rfl (Nat.le_of_ble_eq_true rfl) ⟨Nat.zero_le _, Nat.zero_le _⟩ ?_
  refine jn_e (fun (k17 : Int → Option Int) => ∀ (s0_17 : Int), wp (k17 s0_17) K → WW g 0 0 (w_X9_weight (xG g) q F c_this_far) 17 [] [.int (jz s0_17)]) h (fun s0_17 h => ?_) (fun k17 hk17 h => ?_)
  · exact r_iret C (pc := 17) dX9_weight_17 (hK s0_17 (wp_s h) rfl)
  · refine r_if_eq C (pc := 5) 16 dX9_weight_5 rfl h (fun c5 h => ?_) (fun c5 h => ?_)
    · refine r_iconst C (pc := 16) dX9_weight_16 ?_
      refine r_sub [] rfl ?_
      exact hk17 (-1) h
    · refine r_aload_n C (pc := 8) dX9_weight_8 rfl 0 rfl ?_
      refine r_iload_n C (pc := 9) dX9_weight_9 rfl 1 rfl ?_
      obtain ⟨r10, e10, h⟩ := wp_b1 h
      refine b_cVi C (pc := 10) dX9_weight_10 (c_X9_weightOf (xl g) (xG g) q F c_this_far p1 r10 e10) rfl gX9_weight_X9_weightOf ⟨rfl, rfl⟩ 1 hd_X9_weightOf ⟨Nat.le_of_ble_eq_true rfl, Nat.le_of_ble_eq_true rfl⟩ rfl 0 rfl rfl rfl [0, 1] rfl (srt_nd 0 rfl) (ws' := w_X9_weight (xG g) q F c_this_far) (Put.m rfl rfl rfl) rfl (rest := []) rfl (Nat.le_of_ble_eq_true rfl) ⟨Nat.zero_le _, Nat.zero_le _⟩ ?_
      refine r_goto C (pc := 13) 17 dX9_weight_13 rfl ?_
      refine r_sub [] rfl ?_
      exact hk17 r10 h
theorem c_X9_weight (l : Launch) (G : gG) (q : Nat → Nat) (F : Nat → Int) (c_this_far : Nat → Int) (p1 : Int) (r : Int) (hf : f_X9_weight p1 (F 0) c_this_far = some r) : CTi l yX9_weight wsX9_weight rm_X9_weight G (w_X9_weight G q F c_this_far) [.ref (q 35), .int (jz p1)] (jz r) (w_X9_weight G q F c_this_far) := CTi_of (by decide) rfl rfl (Nat.le_of_ble_eq_true rfl) (fun g C hG hl hF => by
    subst hG
    subst hl
    exact k_X9_weight C q F c_this_far p1 (fun x => x = r) (fun r' e => by cases e; exact hF) ⟨_, hf, rfl⟩)

-- TightHullsModel.aheadOf(I)I
def f_X9_aheadOf (p1 : Int) (m_points : Int) (c_this_far : Nat → Int) : Option Int := bd1 (f_X9_weightOf p1 m_points c_this_far) (fun r4 => lq2 (fun (n11 : Int → Int → Option Int) (v2_11 : Int) (v4_11 : Int) => bd1 (f_X9_isSplit v4_11 m_points) (fun r14 => if eqI r14 0 = true then (some v2_11) else (bd1 (f_X9_weightOf v4_11 m_points c_this_far) (fun r24 => jn (fun (s1_52 : Int) => lv ((v2_11 + s1_52)) (fun x53 => n11 x53 (v4_11 + 2))) (fun (k52 : Int → Option Int) => jn (k52 1) (fun (k47 : Option Int) => if ltI r4 r24 = true then k47 else (bd1 (f_X9_weightOf v4_11 m_points c_this_far) (fun r34 => jn (k52 0) (fun (k51 : Option Int) => if eqI r34 r4 = true then (if ltI v4_11 p1 = true then k47 else k51) else k51))))))))) 300 0 2)
abbrev rm_X9_aheadOf : Room := { frames := 2, cells := 0, slots := 0, locals := 88 }
abbrev w_X9_aheadOf (G : gG) (q : Nat → Nat) (F : Nat → Int) (c_this_far : Nat → Int) : va_W := [((q 35), oX9 F q), ((q 1), aI G 25 c_this_far)]
theorem hd_X9_aheadOf : yX9_aheadOf.cls = RX9 ∧ yX9_aheadOf.cls ≠ "java/lang/invoke/MethodHandle" ∧ yX9_aheadOf.cls ≠ "java/lang/invoke/VarHandle" ∧ (parseMethodDescriptor yX9_aheadOf.desc).map (fun d => d.parameters.length) = some 1 := by decide +kernel
set_option maxRecDepth 100000 in
set_option maxHeartbeats 4000000 in
theorem k_X9_aheadOf {g : XC} (C : XOk g cX9_aheadOf RX9 wsX9_aheadOf rm_X9_aheadOf 5) (q : Nat → Nat) (F : Nat → Int) (c_this_far : Nat → Int) (p1 : Int) (K : Int → Prop) (hK : ∀ (r : Int), K r → (narrow .int (.int (jz r)) = .int (jz r) → FinI g 0 0 (w_X9_aheadOf (xG g) q F c_this_far) (jz r))) (h : wp (f_X9_aheadOf p1 (F 0) c_this_far) K) : WW g 0 0 (w_X9_aheadOf (xG g) q F c_this_far) 0 [(0, .ref (q 35)), (1, .int (jz p1))] [] := by
  unfold f_X9_aheadOf at h
  refine r_iconst C (pc := 0) dX9_aheadOf_0 ?_
  refine r_istore_n C (pc := 1) dX9_aheadOf_1 rfl (by decide) (L' := [(0, .ref (q 35)), (1, .int (jz p1)), (2, .int (jz 0))]) rfl ?_
  refine r_aload_n C (pc := 2) dX9_aheadOf_2 rfl 0 rfl ?_
  refine r_iload_n C (pc := 3) dX9_aheadOf_3 rfl 1 rfl ?_
  obtain ⟨r4, e4, h⟩ := wp_b1 h
  refine b_cVi C (pc := 4) dX9_aheadOf_4 (c_X9_weightOf (xl g) (xG g) q F c_this_far p1 r4 e4) rfl gX9_aheadOf_X9_weightOf ⟨rfl, rfl⟩ 1 hd_X9_weightOf ⟨Nat.le_of_ble_eq_true rfl, Nat.le_of_ble_eq_true rfl⟩ rfl 0 rfl rfl rfl [0, 1] rfl (srt_nd 0 rfl) (ws' := w_X9_aheadOf (xG g) q F c_this_far) (Put.m rfl rfl rfl) rfl (rest := []) rfl (Nat.le_of_ble_eq_true rfl) ⟨Nat.zero_le _, Nat.zero_le _⟩ ?_
  refine r_istore_n C (pc := 7) dX9_aheadOf_7 rfl (by decide) (L' := [(0, .ref (q 35)), (1, .int (jz p1)), (2, .int (jz 0)), (3, .int (jz r4))]) rfl ?_
  refine r_iconst C (pc := 8) dX9_aheadOf_8 ?_
  refine r_istore C (pc := 9) dX9_aheadOf_9 (by decide) (L' := [(0, .ref (q 35)), (1, .int (jz p1)), (2, .int (jz 0)), (3, .int (jz r4)), (4, .int (jz 2))]) rfl ?_
  refine lq2_e (fun (v2_11 : Int) (v4_11 : Int) => WW g 0 0 (w_X9_aheadOf (xG g) q F c_this_far) 11 [(0, .ref (q 35)), (1, .int (jz p1)), (2, .int (jz v2_11)), (3, .int (jz r4)), (4, .int (jz v4_11))] []) h (fun n11 hn11 v2_11 v4_11 h => ?_)
  refine r_aload_n C (pc := 11) dX9_aheadOf_11 rfl 0 rfl ?_
  refine r_iload C (pc := 12) dX9_aheadOf_12 4 rfl ?_
  obtain ⟨r14, e14, h⟩ := wp_b1 h
  refine b_cVi C (pc := 14) dX9_aheadOf_14 (c_X9_isSplit (xl g) (xG g) q F v4_11 r14 e14) rfl gX9_aheadOf_X9_isSplit ⟨rfl, rfl⟩ 1 hd_X9_isSplit ⟨Nat.le_of_ble_eq_true rfl, Nat.le_of_ble_eq_true rfl⟩ rfl 0 rfl rfl rfl [0] rfl (srt_nd 0 rfl) (ws' := w_X9_aheadOf (xG g) q F c_this_far) (Put.m rfl rfl rfl) rfl (rest := []) rfl (Nat.le_of_ble_eq_true rfl) ⟨Nat.zero_le _, Nat.zero_le _⟩ ?_
  refine r_if_eq C (pc := 17) 60 dX9_aheadOf_17 rfl h (fun c17 h => ?_) (fun c17 h => ?_)
  · refine r_iload_n C (pc := 60) dX9_aheadOf_60 rfl 2 rfl ?_
    exact r_iret C (pc := 61) dX9_aheadOf_61 (hK v2_11 (wp_s h) rfl)
  · refine r_iload_n C (pc := 20) dX9_aheadOf_20 rfl 2 rfl ?_
    refine r_aload_n C (pc := 21) dX9_aheadOf_21 rfl 0 rfl ?_
    refine r_iload C (pc := 22) dX9_aheadOf_22 4 rfl ?_
    obtain ⟨r24, e24, h⟩ := wp_b1 h
    refine b_cVi C (pc := 24) dX9_aheadOf_24 (c_X9_weightOf (xl g) (xG g) q F c_this_far v4_11 r24 e24) rfl gX9_aheadOf_X9_weightOf ⟨rfl, rfl⟩ 1 hd_X9_weightOf ⟨Nat.le_of_ble_eq_true rfl, Nat.le_of_ble_eq_true rfl⟩ rfl 0 rfl rfl rfl [0, 1] rfl (srt_nd 0 rfl) (ws' := w_X9_aheadOf (xG g) q F c_this_far) (Put.m rfl rfl rfl) rfl (rest := [.int (jz v2_11)]) rfl (Nat.le_of_ble_eq_true rfl) ⟨Nat.zero_le _, Nat.zero_le _⟩ ?_
    refine r_iload_n C (pc := 27) dX9_aheadOf_27 rfl 3 rfl ?_
    refine jn_e (fun (k52 : Int → Option Int) => ∀ (s1_52 : Int), wp (k52 s1_52) K → WW g 0 0 (w_X9_aheadOf (xG g) q F c_this_far) 52 [(0, .ref (q 35)), (1, .int (jz p1)), (3, .int (jz r4)), (4, .int (jz v4_11))] [.int (jz s1_52), .int (jz v2_11)]) h (fun s1_52 h => ?_) (fun k52 hk52 h => ?_)
    · refine r_iadd C (pc := 52) dX9_aheadOf_52 ?_
      refine r_let h (fun x53 h => ?_)
      refine r_istore_n C (pc := 53) dX9_aheadOf_53 rfl (by decide) (L' := [(0, .ref (q 35)), (1, .int (jz p1)), (2, .int (jz x53)), (3, .int (jz r4)), (4, .int (jz v4_11))]) rfl ?_
      refine r_iinc C (pc := 54) dX9_aheadOf_54 4 rfl (by decide) (L' := [(0, .ref (q 35)), (1, .int (jz p1)), (2, .int (jz x53)), (3, .int (jz r4)), (4, .int (jz (v4_11 + 2)))]) rfl ?_
      refine r_goto C (pc := 57) 11 dX9_aheadOf_57 rfl ?_
      exact hn11 x53 (v4_11 + 2) h
    · refine jn_e (fun (k47 : Option Int) => wp (k47) K → WW g 0 0 (w_X9_aheadOf (xG g) q F c_this_far) 47 [(0, .ref (q 35)), (1, .int (jz p1)), (3, .int (jz r4)), (4, .int (jz v4_11))] [.int (jz v2_11)]) h (fun h => ?_) (fun k47 hk47 h => ?_)
      · refine r_iconst C (pc := 47) dX9_aheadOf_47 ?_
        refine r_goto C (pc := 48) 52 dX9_aheadOf_48 rfl ?_
        exact hk52 1 h
      · refine r_icmp_gt C (pc := 28) 47 dX9_aheadOf_28 rfl h (fun c28 h => ?_) (fun c28 h => ?_)
        · refine r_sub [0, 1, 3, 4] rfl ?_
          exact hk47 h
        · refine r_aload_n C (pc := 31) dX9_aheadOf_31 rfl 0 rfl ?_
          refine r_iload C (pc := 32) dX9_aheadOf_32 4 rfl ?_
          obtain ⟨r34, e34, h⟩ := wp_b1 h
          refine b_cVi C (pc := 34) dX9_aheadOf_34 (c_X9_weightOf (xl g) (xG g) q F c_this_far v4_11 r34 e34) rfl gX9_aheadOf_X9_weightOf ⟨rfl, rfl⟩ 1 hd_X9_weightOf ⟨Nat.le_of_ble_eq_true rfl, Nat.le_of_ble_eq_true rfl⟩ rfl 0 rfl rfl rfl [0, 1] rfl (srt_nd 0 rfl) (ws' := w_X9_aheadOf (xG g) q F c_this_far) (Put.m rfl rfl rfl) rfl (rest := [.int (jz v2_11)]) rfl (Nat.le_of_ble_eq_true rfl) ⟨Nat.zero_le _, Nat.zero_le _⟩ ?_
          refine r_iload_n C (pc := 37) dX9_aheadOf_37 rfl 3 rfl ?_
          refine jn_e (fun (k51 : Option Int) => wp (k51) K → WW g 0 0 (w_X9_aheadOf (xG g) q F c_this_far) 51 [(0, .ref (q 35)), (1, .int (jz p1)), (3, .int (jz r4)), (4, .int (jz v4_11))] [.int (jz v2_11)]) h (fun h => ?_) (fun k51 hk51 h => ?_)
          · refine r_iconst C (pc := 51) dX9_aheadOf_51 ?_
            exact hk52 0 h
          · refine r_icmp_ne C (pc := 38) 51 dX9_aheadOf_38 rfl h (fun c38 h => ?_) (fun c38 h => ?_)
            · refine r_sub [0, 1, 3, 4] rfl ?_
              exact hk51 h
            · refine r_iload C (pc := 41) dX9_aheadOf_41 4 rfl ?_
              refine r_iload_n C (pc := 43) dX9_aheadOf_43 rfl 1 rfl ?_
              refine r_icmp_ge C (pc := 44) 51 dX9_aheadOf_44 rfl h (fun c44 h => ?_) (fun c44 h => ?_)
              · refine r_sub [0, 1, 3, 4] rfl ?_
                exact hk51 h
              · refine r_sub [0, 1, 3, 4] rfl ?_
                exact hk47 h
theorem c_X9_aheadOf (l : Launch) (G : gG) (q : Nat → Nat) (F : Nat → Int) (c_this_far : Nat → Int) (p1 : Int) (r : Int) (hf : f_X9_aheadOf p1 (F 0) c_this_far = some r) : CTi l yX9_aheadOf wsX9_aheadOf rm_X9_aheadOf G (w_X9_aheadOf G q F c_this_far) [.ref (q 35), .int (jz p1)] (jz r) (w_X9_aheadOf G q F c_this_far) := CTi_of (by decide) rfl rfl (Nat.le_of_ble_eq_true rfl) (fun g C hG hl hF => by
    subst hG
    subst hl
    exact k_X9_aheadOf C q F c_this_far p1 (fun x => x = r) (fun r' e => by cases e; exact hF) ⟨_, hf, rfl⟩)

-- TightHullsModel.split(II)I
def f_X9_split (p1 : Int) (p2 : Int) (m_points : Int) (c_this_far : Nat → Int) : Option Int := jn (some (-1)) (fun (k13 : Option Int) => if ltI p1 0 = true then k13 else (bd1 (f_X9_in p2 0 1) (fun r7 => if eqI r7 0 = true then k13 else (lq1 (fun (n17 : Int → Option Int) (v3_17 : Int) => bd1 (f_X9_isSplit v3_17 m_points) (fun r19 => if eqI r19 0 = true then (some (-5)) else (bd1 (f_X9_weightOf v3_17 m_points c_this_far) (fun r27 => jn (n17 (v3_17 + 2)) (fun (k56 : Option Int) => if ltI 0 r27 = true then (bd1 (f_X9_aheadOf v3_17 m_points c_this_far) (fun r35 => if eqI r35 p1 = true then (jn (fun (s0_55 : Int) => some s0_55) (fun (k55 : Int → Option Int) => if eqI p2 0 = true then (k55 v3_17) else (bd1 (f_X9_weightOf v3_17 m_points c_this_far) (fun r52 => k55 r52)))) else k56)) else k56))))) 300 2))))
abbrev rm_X9_split : Room := { frames := 3, cells := 0, slots := 0, locals := 112 }
abbrev w_X9_split (G : gG) (q : Nat → Nat) (F : Nat → Int) (c_this_far : Nat → Int) : va_W := [((q 35), oX9 F q), ((q 1), aI G 25 c_this_far)]
theorem hd_X9_split : yX9_split.cls = RX9 ∧ yX9_split.cls ≠ "java/lang/invoke/MethodHandle" ∧ yX9_split.cls ≠ "java/lang/invoke/VarHandle" ∧ (parseMethodDescriptor yX9_split.desc).map (fun d => d.parameters.length) = some 2 := by decide +kernel
set_option maxRecDepth 100000 in
set_option maxHeartbeats 4000000 in
theorem k_X9_split {g : XC} (C : XOk g cX9_split RX9 wsX9_split rm_X9_split 4) (q : Nat → Nat) (F : Nat → Int) (c_this_far : Nat → Int) (p1 : Int) (p2 : Int) (K : Int → Prop) (hK : ∀ (r : Int), K r → (narrow .int (.int (jz r)) = .int (jz r) → FinI g 0 0 (w_X9_split (xG g) q F c_this_far) (jz r))) (h : wp (f_X9_split p1 p2 (F 0) c_this_far) K) : WW g 0 0 (w_X9_split (xG g) q F c_this_far) 0 [(0, .ref (q 35)), (1, .int (jz p1)), (2, .int (jz p2))] [] := by
  unfold f_X9_split at h
  refine r_iload_n C (pc := 0) dX9_split_0 rfl 1 rfl ?_
  refine jn_e (fun (k13 : Option Int) => wp (k13) K → WW g 0 0 (w_X9_split (xG g) q F c_this_far) 13 [] []) h (fun h => ?_) (fun k13 hk13 h => ?_)
  · refine r_iconst C (pc := 13) dX9_split_13 ?_
    exact r_iret C (pc := 14) dX9_split_14 (hK (-1) (wp_s h) rfl)
  · refine r_if_lt C (pc := 1) 13 dX9_split_1 rfl h (fun c1 h => ?_) (fun c1 h => ?_)
    · refine r_sub [] rfl ?_
      exact hk13 h
    · refine r_iload_n C (pc := 4) dX9_split_4 rfl 2 rfl ?_
      refine r_iconst C (pc := 5) dX9_split_5 ?_
      refine r_iconst C (pc := 6) dX9_split_6 ?_
      obtain ⟨r7, e7, h⟩ := wp_b1 h
      refine b_cSi C (pc := 7) dX9_split_7 (c_X9_in (xl g) (xG g) p2 0 1 r7 e7) rfl gX9_split_X9_in ⟨rfl, rfl⟩ 3 hd_X9_in ⟨Nat.le_of_ble_eq_true rfl, Nat.le_of_ble_eq_true rfl⟩ rfl [] rfl (srt_nd 0 rfl) (ws' := w_X9_split (xG g) q F c_this_far) (Put.m rfl rfl rfl) rfl (rest := []) rfl (Nat.le_of_ble_eq_true rfl) ⟨Nat.zero_le _, Nat.zero_le _⟩ ?_
      refine r_if_ne C (pc := 10) 15 dX9_split_10 rfl h (fun c10 h => ?_) (fun c10 h => ?_)
      · refine r_iconst C (pc := 15) dX9_split_15 ?_
        refine r_istore_n C (pc := 16) dX9_split_16 rfl (by decide) (L' := [(0, .ref (q 35)), (1, .int (jz p1)), (2, .int (jz p2)), (3, .int (jz 2))]) rfl ?_
        refine lq1_e (fun (v3_17 : Int) => WW g 0 0 (w_X9_split (xG g) q F c_this_far) 17 [(0, .ref (q 35)), (1, .int (jz p1)), (2, .int (jz p2)), (3, .int (jz v3_17))] []) h (fun n17 hn17 v3_17 h => ?_)
        refine r_aload_n C (pc := 17) dX9_split_17 rfl 0 rfl ?_
        refine r_iload_n C (pc := 18) dX9_split_18 rfl 3 rfl ?_
        obtain ⟨r19, e19, h⟩ := wp_b1 h
        refine b_cVi C (pc := 19) dX9_split_19 (c_X9_isSplit (xl g) (xG g) q F v3_17 r19 e19) rfl gX9_split_X9_isSplit ⟨rfl, rfl⟩ 1 hd_X9_isSplit ⟨Nat.le_of_ble_eq_true rfl, Nat.le_of_ble_eq_true rfl⟩ rfl 0 rfl rfl rfl [0] rfl (srt_nd 0 rfl) (ws' := w_X9_split (xG g) q F c_this_far) (Put.m rfl rfl rfl) rfl (rest := []) rfl (Nat.le_of_ble_eq_true rfl) ⟨Nat.zero_le _, Nat.zero_le _⟩ ?_
        refine r_if_eq C (pc := 22) 62 dX9_split_22 rfl h (fun c22 h => ?_) (fun c22 h => ?_)
        · refine r_bipush C (pc := 62) dX9_split_62 rfl ?_
          exact r_iret C (pc := 64) dX9_split_64 (hK (-5) (wp_s h) rfl)
        · refine r_aload_n C (pc := 25) dX9_split_25 rfl 0 rfl ?_
          refine r_iload_n C (pc := 26) dX9_split_26 rfl 3 rfl ?_
          obtain ⟨r27, e27, h⟩ := wp_b1 h
          refine b_cVi C (pc := 27) dX9_split_27 (c_X9_weightOf (xl g) (xG g) q F c_this_far v3_17 r27 e27) rfl gX9_split_X9_weightOf ⟨rfl, rfl⟩ 1 hd_X9_weightOf ⟨Nat.le_of_ble_eq_true rfl, Nat.le_of_ble_eq_true rfl⟩ rfl 0 rfl rfl rfl [0, 1] rfl (srt_nd 0 rfl) (ws' := w_X9_split (xG g) q F c_this_far) (Put.m rfl rfl rfl) rfl (rest := []) rfl (Nat.le_of_ble_eq_true rfl) ⟨Nat.zero_le _, Nat.zero_le _⟩ ?_
          refine jn_e (fun (k56 : Option Int) => wp (k56) K → WW g 0 0 (w_X9_split (xG g) q F c_this_far) 56 [(0, .ref (q 35)), (1, .int (jz p1)), (2, .int (jz p2)), (3, .int (jz v3_17))] []) h (fun h => ?_) (fun k56 hk56 h => ?_)
          · refine r_iinc C (pc := 56) dX9_split_56 3 rfl (by decide) (L' := [(0, .ref (q 35)), (1, .int (jz p1)), (2, .int (jz p2)), (3, .int (jz (v3_17 + 2)))]) rfl ?_
            refine r_goto C (pc := 59) 17 dX9_split_59 rfl ?_
            exact hn17 (v3_17 + 2) h
          · refine r_if_le C (pc := 30) 56 dX9_split_30 rfl h (fun c30 h => ?_) (fun c30 h => ?_)
            · exact hk56 h
            · refine r_aload_n C (pc := 33) dX9_split_33 rfl 0 rfl ?_
              refine r_iload_n C (pc := 34) dX9_split_34 rfl 3 rfl ?_
              obtain ⟨r35, e35, h⟩ := wp_b1 h
              refine b_cVi C (pc := 35) dX9_split_35 (c_X9_aheadOf (xl g) (xG g) q F c_this_far v3_17 r35 e35) rfl gX9_split_X9_aheadOf ⟨rfl, rfl⟩ 1 hd_X9_aheadOf ⟨Nat.le_of_ble_eq_true rfl, Nat.le_of_ble_eq_true rfl⟩ rfl 0 rfl rfl rfl [0, 1] rfl (srt_nd 0 rfl) (ws' := w_X9_split (xG g) q F c_this_far) (Put.m rfl rfl rfl) rfl (rest := []) rfl (Nat.le_of_ble_eq_true rfl) ⟨Nat.zero_le _, Nat.zero_le _⟩ ?_
              refine r_iload_n C (pc := 38) dX9_split_38 rfl 1 rfl ?_
              refine r_icmp_ne C (pc := 39) 56 dX9_split_39 rfl h (fun c39 h => ?_) (fun c39 h => ?_)
              · exact hk56 h
              · refine r_iload_n C (pc := 42) dX9_split_42 rfl 2 rfl ?_
                refine jn_e (fun (k55 : Int → Option Int) => ∀ (s0_55 : Int), wp (k55 s0_55) K → WW g 0 0 (w_X9_split (xG g) q F c_this_far) 55 [] [.int (jz s0_55)]) h (fun s0_55 h => ?_) (fun k55 hk55 h => ?_)
                · exact r_iret C (pc := 55) dX9_split_55 (hK s0_55 (wp_s h) rfl)
                · refine r_if_ne C (pc := 43) 50 dX9_split_43 rfl h (fun c43 h => ?_) (fun c43 h => ?_)
                  · refine r_aload_n C (pc := 50) dX9_split_50 rfl 0 rfl ?_
                    refine r_iload_n C (pc := 51) dX9_split_51 rfl 3 rfl ?_
                    obtain ⟨r52, e52, h⟩ := wp_b1 h
                    refine b_cVi C (pc := 52) dX9_split_52 (c_X9_weightOf (xl g) (xG g) q F c_this_far v3_17 r52 e52) rfl gX9_split_X9_weightOf ⟨rfl, rfl⟩ 1 hd_X9_weightOf ⟨Nat.le_of_ble_eq_true rfl, Nat.le_of_ble_eq_true rfl⟩ rfl 0 rfl rfl rfl [0, 1] rfl (srt_nd 0 rfl) (ws' := w_X9_split (xG g) q F c_this_far) (Put.m rfl rfl rfl) rfl (rest := []) rfl (Nat.le_of_ble_eq_true rfl) ⟨Nat.zero_le _, Nat.zero_le _⟩ ?_
                    refine r_sub [] rfl ?_
                    exact hk55 r52 h
                  · refine r_iload_n C (pc := 46) dX9_split_46 rfl 3 rfl ?_
                    refine r_goto C (pc := 47) 55 dX9_split_47 rfl ?_
                    refine r_sub [] rfl ?_
                    exact hk55 v3_17 h
      · refine r_sub [] rfl ?_
        exact hk13 h
theorem c_X9_split (l : Launch) (G : gG) (q : Nat → Nat) (F : Nat → Int) (c_this_far : Nat → Int) (p1 : Int) (p2 : Int) (r : Int) (hf : f_X9_split p1 p2 (F 0) c_this_far = some r) : CTi l yX9_split wsX9_split rm_X9_split G (w_X9_split G q F c_this_far) [.ref (q 35), .int (jz p1), .int (jz p2)] (jz r) (w_X9_split G q F c_this_far) := CTi_of (by decide) rfl rfl (Nat.le_of_ble_eq_true rfl) (fun g C hG hl hF => by
    subst hG
    subst hl
    exact k_X9_split C q F c_this_far p1 p2 (fun x => x = r) (fun r' e => by cases e; exact hF) ⟨_, hf, rfl⟩)

-- TightHullsModel.see(II)I
def f_X9_see (p1 : Int) (p2 : Int) (m_points : Int) (m_seen : Int) (c_this_seenSplit : Nat → Int) (c_this_seenWeight : Nat → Int) : Option (Int × Int × (Nat → Int) × (Nat → Int)) := if eqI p1 (-1) = true then (some (0, 0, c_this_seenSplit, c_this_seenWeight)) else (bd1 (f_X9_isSplit p1 m_points) (fun r14 => if eqI r14 0 = true then (some ((-1), m_seen, c_this_seenSplit, c_this_seenWeight)) else (bd1 (f_X9_in p2 0 99) (fun r26 => if eqI r26 0 = true then (some ((-2), m_seen, c_this_seenSplit, c_this_seenWeight)) else (if eqI m_seen 4 = true then (some ((-4), m_seen, c_this_seenSplit, c_this_seenWeight)) else (grd (iin m_seen 4) (grd (iin m_seen 4) (lv ((m_seen + 1)) (fun x73 => some (x73, x73, (up c_this_seenSplit (ix m_seen) p1), (up c_this_seenWeight (ix m_seen) p2)))))))))))
abbrev rm_X9_see : Room := { frames := 2, cells := 0, slots := 0, locals := 43 }
abbrev w_X9_see (G : gG) (q : Nat → Nat) (F : Nat → Int) (c_this_seenSplit : Nat → Int) (c_this_seenWeight : Nat → Int) : va_W := [((q 35), oX9 F q), ((q 5), aI G 4 c_this_seenSplit), ((q 6), aI G 4 c_this_seenWeight)]
theorem hd_X9_see : yX9_see.cls = RX9 ∧ yX9_see.cls ≠ "java/lang/invoke/MethodHandle" ∧ yX9_see.cls ≠ "java/lang/invoke/VarHandle" ∧ (parseMethodDescriptor yX9_see.desc).map (fun d => d.parameters.length) = some 2 := by decide +kernel
theorem in_X9_see_X9 : ∀ w ∈ u_ws RX9 TX9 35, w ∈ wsX9_see := fun w h => List.mem_cons_of_mem _ (List.mem_append_right _ (h))
theorem gf_X9_see_239 : GF wsX9_see RX9 239 8 4 := ⟨RX9, TX9, 35, rfl, in_X9_see_X9, by decide, List.mem_of_getElem? (i := 1) rfl⟩
theorem gf_X9_see_25 : GF wsX9_see RX9 25 8 5 := ⟨RX9, TX9, 35, rfl, in_X9_see_X9, by decide, List.mem_of_getElem? (i := 2) rfl⟩
theorem gf_X9_see_28 : GF wsX9_see RX9 28 8 6 := ⟨RX9, TX9, 35, rfl, in_X9_see_X9, by decide, List.mem_of_getElem? (i := 3) rfl⟩
theorem pf_X9_see_239 : PF wsX9_see RX9 239 8 4 .int false := ⟨RX9, TX9, 35, tyX9, rfl, in_X9_see_X9, tyX9_ok, nmX9, by decide, List.mem_of_getElem? (i := 1) rfl, rfl, rfl, rfl⟩
set_option maxRecDepth 100000 in
set_option maxHeartbeats 4000000 in
theorem k_X9_see {g : XC} (C : XOk g cX9_see RX9 wsX9_see rm_X9_see 3) (q : Nat → Nat) (F : Nat → Int) (c_this_seenSplit : Nat → Int) (c_this_seenWeight : Nat → Int) (p1 : Int) (p2 : Int) (K : (Int × Int × (Nat → Int) × (Nat → Int)) → Prop) (hK : ∀ (r : Int) (o0 : Int) (o1 : Nat → Int) (o2 : Nat → Int), K (r, o0, o1, o2) → (narrow .int (.int (jz r)) = .int (jz r) → FinI g 0 0 (w_X9_see (xG g) q (up F 4 o0) o1 o2) (jz r))) (h : wp (f_X9_see p1 p2 (F 0) (F 4) c_this_seenSplit c_this_seenWeight) K) : WW g 0 0 (w_X9_see (xG g) q F c_this_seenSplit c_this_seenWeight) 0 [(0, .ref (q 35)), (1, .int (jz p1)), (2, .int (jz p2))] [] := by
  unfold f_X9_see at h
  refine r_iload_n C (pc := 0) dX9_see_0 rfl 1 rfl ?_
  refine r_iconst C (pc := 1) dX9_see_1 ?_
  refine r_icmp_ne C (pc := 2) 12 dX9_see_2 rfl h (fun c2 h => ?_) (fun c2 h => ?_)
  · refine r_aload_n C (pc := 12) dX9_see_12 rfl 0 rfl ?_
    refine r_iload_n C (pc := 13) dX9_see_13 rfl 1 rfl ?_
    obtain ⟨r14, e14, h⟩ := wp_b1 h
    refine b_cVi C (pc := 14) dX9_see_14 (c_X9_isSplit (xl g) (xG g) q F p1 r14 e14) rfl gX9_see_X9_isSplit ⟨rfl, rfl⟩ 1 hd_X9_isSplit ⟨Nat.le_of_ble_eq_true rfl, Nat.le_of_ble_eq_true rfl⟩ rfl 0 rfl rfl rfl [0] rfl (srt_nd 0 rfl) (ws' := w_X9_see (xG g) q F c_this_seenSplit c_this_seenWeight) (Put.m rfl rfl rfl) rfl (rest := []) rfl (Nat.le_of_ble_eq_true rfl) ⟨Nat.zero_le _, Nat.zero_le _⟩ ?_
    refine r_if_ne C (pc := 17) 22 dX9_see_17 rfl h (fun c17 h => ?_) (fun c17 h => ?_)
    · refine r_iload_n C (pc := 22) dX9_see_22 rfl 2 rfl ?_
      refine r_iconst C (pc := 23) dX9_see_23 ?_
      refine r_bipush C (pc := 24) dX9_see_24 rfl ?_
      obtain ⟨r26, e26, h⟩ := wp_b1 h
      refine b_cSi C (pc := 26) dX9_see_26 (c_X9_in (xl g) (xG g) p2 0 99 r26 e26) rfl gX9_see_X9_in ⟨rfl, rfl⟩ 3 hd_X9_in ⟨Nat.le_of_ble_eq_true rfl, Nat.le_of_ble_eq_true rfl⟩ rfl [] rfl (srt_nd 0 rfl) (ws' := w_X9_see (xG g) q F c_this_seenSplit c_this_seenWeight) (Put.m rfl rfl rfl) rfl (rest := []) rfl (Nat.le_of_ble_eq_true rfl) ⟨Nat.zero_le _, Nat.zero_le _⟩ ?_
      refine r_if_ne C (pc := 29) 35 dX9_see_29 rfl h (fun c29 h => ?_) (fun c29 h => ?_)
      · refine r_aload_n C (pc := 35) dX9_see_35 rfl 0 rfl ?_
        refine r_get C (pc := 36) dX9_see_36 gf_X9_see_239 0 rfl rfl ?_
        refine r_iconst C (pc := 39) dX9_see_39 ?_
        refine r_icmp_ne C (pc := 40) 46 dX9_see_40 rfl h (fun c40 h => ?_) (fun c40 h => ?_)
        · refine r_aload_n C (pc := 46) dX9_see_46 rfl 0 rfl ?_
          refine r_get C (pc := 47) dX9_see_47 gf_X9_see_25 0 rfl rfl ?_
          refine r_aload_n C (pc := 50) dX9_see_50 rfl 0 rfl ?_
          refine r_get C (pc := 51) dX9_see_51 gf_X9_see_239 0 rfl rfl ?_
          refine r_iload_n C (pc := 54) dX9_see_54 rfl 1 rfl ?_
          refine r_iast C (pc := 55) dX9_see_55 h 1 rfl (ws' := w_X9_see (xG g) q F (up c_this_seenSplit (ix (F 4)) p1) c_this_seenWeight) rfl (fun h => ?_)
          refine r_aload_n C (pc := 56) dX9_see_56 rfl 0 rfl ?_
          refine r_get C (pc := 57) dX9_see_57 gf_X9_see_28 0 rfl rfl ?_
          refine r_aload_n C (pc := 60) dX9_see_60 rfl 0 rfl ?_
          refine r_get C (pc := 61) dX9_see_61 gf_X9_see_239 0 rfl rfl ?_
          refine r_iload_n C (pc := 64) dX9_see_64 rfl 2 rfl ?_
          refine r_iast C (pc := 65) dX9_see_65 h 2 rfl (ws' := w_X9_see (xG g) q F (up c_this_seenSplit (ix (F 4)) p1) (up c_this_seenWeight (ix (F 4)) p2)) rfl (fun h => ?_)
          refine r_aload_n C (pc := 66) dX9_see_66 rfl 0 rfl ?_
          refine r_dup C (pc := 67) dX9_see_67 rfl ?_
          refine r_get C (pc := 68) dX9_see_68 gf_X9_see_239 0 rfl rfl ?_
          refine r_iconst C (pc := 71) dX9_see_71 ?_
          refine r_iadd C (pc := 72) dX9_see_72 ?_
          refine r_let h (fun x73 h => ?_)
          refine r_puti C (pc := 73) dX9_see_73 pf_X9_see_239 0 rfl (Nat.le_of_ble_eq_true rfl) (ws' := w_X9_see (xG g) q (up F 4 x73) (up c_this_seenSplit (ix (F 4)) p1) (up c_this_seenWeight (ix (F 4)) p2)) rfl ?_
          refine r_aload_n C (pc := 76) dX9_see_76 rfl 0 rfl ?_
          refine r_get C (pc := 77) dX9_see_77 gf_X9_see_239 0 rfl rfl ?_
          exact r_iret C (pc := 80) dX9_see_80 (hK x73 x73 (up c_this_seenSplit (ix (F 4)) p1) (up c_this_seenWeight (ix (F 4)) p2) (wp_s h) rfl)
        · refine r_bipush C (pc := 43) dX9_see_43 rfl ?_
          exact r_iret C (pc := 45) dX9_see_45 (hK (-4) (F 4) c_this_seenSplit c_this_seenWeight (wp_s h) rfl)
      · refine r_bipush C (pc := 32) dX9_see_32 rfl ?_
        exact r_iret C (pc := 34) dX9_see_34 (hK (-2) (F 4) c_this_seenSplit c_this_seenWeight (wp_s h) rfl)
    · refine r_iconst C (pc := 20) dX9_see_20 ?_
      exact r_iret C (pc := 21) dX9_see_21 (hK (-1) (F 4) c_this_seenSplit c_this_seenWeight (wp_s h) rfl)
  · refine r_aload_n C (pc := 5) dX9_see_5 rfl 0 rfl ?_
    refine r_iconst C (pc := 6) dX9_see_6 ?_
    refine r_puti C (pc := 7) dX9_see_7 pf_X9_see_239 0 rfl (Nat.le_of_ble_eq_true rfl) (ws' := w_X9_see (xG g) q (up F 4 0) c_this_seenSplit c_this_seenWeight) rfl ?_
    refine r_iconst C (pc := 10) dX9_see_10 ?_
    exact r_iret C (pc := 11) dX9_see_11 (hK 0 0 c_this_seenSplit c_this_seenWeight (wp_s h) rfl)
theorem c_X9_see (l : Launch) (G : gG) (q : Nat → Nat) (F : Nat → Int) (c_this_seenSplit : Nat → Int) (c_this_seenWeight : Nat → Int) (p1 : Int) (p2 : Int) (r : Int) (o0 : Int) (o1 : Nat → Int) (o2 : Nat → Int) (hf : f_X9_see p1 p2 (F 0) (F 4) c_this_seenSplit c_this_seenWeight = some (r, o0, o1, o2)) : CTi l yX9_see wsX9_see rm_X9_see G (w_X9_see G q F c_this_seenSplit c_this_seenWeight) [.ref (q 35), .int (jz p1), .int (jz p2)] (jz r) (w_X9_see G q (up F 4 o0) o1 o2) := CTi_of (by decide) rfl rfl (Nat.le_of_ble_eq_true rfl) (fun g C hG hl hF => by
    subst hG
    subst hl
    exact k_X9_see C q F c_this_seenSplit c_this_seenWeight p1 p2 (fun x => x = (r, o0, o1, o2)) (fun r' o0' o1' o2' e => by cases e; exact hF) ⟨_, hf, rfl⟩)

-- TightHullsModel.isAsSeen()Z
def f_X9_isAsSeen (m_points : Int) (m_seen : Int) (c_this_far : Nat → Int) (c_this_seenSplit : Nat → Int) (c_this_seenWeight : Nat → Int) : Option Int := lq1 (fun (n2 : Int → Option Int) (v1_2 : Int) => if ltI v1_2 m_seen = true then (grd (iin v1_2 4) (bd1 (f_X9_isSplit (c_this_seenSplit (ix v1_2)) m_points) (fun r17 => jn (some 0) (fun (k42 : Option Int) => if eqI r17 0 = true then k42 else (grd (iin v1_2 4) (bd1 (f_X9_weightOf (c_this_seenSplit (ix v1_2)) m_points c_this_far) (fun r30 => grd (iin v1_2 4) (if eqI r30 (c_this_seenWeight (ix v1_2)) = true then (n2 (v1_2 + 1)) else k42)))))))) else (bd1 (f_X9_barred m_points c_this_far) (fun r51 => jn (fun (s0_62 : Int) => grd (isB s0_62) (some s0_62)) (fun (k62 : Int → Option Int) => if ltI r51 0 = true then (k62 1) else (k62 0))))) 300 0
abbrev rm_X9_isAsSeen : Room := { frames := 2, cells := 0, slots := 0, locals := 88 }
abbrev w_X9_isAsSeen (G : gG) (q : Nat → Nat) (F : Nat → Int) (c_this_far : Nat → Int) (c_this_seenSplit : Nat → Int) (c_this_seenWeight : Nat → Int) : va_W := [((q 35), oX9 F q), ((q 1), aI G 25 c_this_far), ((q 5), aI G 4 c_this_seenSplit), ((q 6), aI G 4 c_this_seenWeight)]
theorem hd_X9_isAsSeen : yX9_isAsSeen.cls = RX9 ∧ yX9_isAsSeen.cls ≠ "java/lang/invoke/MethodHandle" ∧ yX9_isAsSeen.cls ≠ "java/lang/invoke/VarHandle" ∧ (parseMethodDescriptor yX9_isAsSeen.desc).map (fun d => d.parameters.length) = some 0 := by decide +kernel
theorem in_X9_isAsSeen_X9 : ∀ w ∈ u_ws RX9 TX9 35, w ∈ wsX9_isAsSeen := fun w h => List.mem_cons_of_mem _ (List.mem_append_right _ (h))
theorem gf_X9_isAsSeen_239 : GF wsX9_isAsSeen RX9 239 8 4 := ⟨RX9, TX9, 35, rfl, in_X9_isAsSeen_X9, by decide, List.mem_of_getElem? (i := 1) rfl⟩
theorem gf_X9_isAsSeen_25 : GF wsX9_isAsSeen RX9 25 8 5 := ⟨RX9, TX9, 35, rfl, in_X9_isAsSeen_X9, by decide, List.mem_of_getElem? (i := 2) rfl⟩
theorem gf_X9_isAsSeen_28 : GF wsX9_isAsSeen RX9 28 8 6 := ⟨RX9, TX9, 35, rfl, in_X9_isAsSeen_X9, by decide, List.mem_of_getElem? (i := 3) rfl⟩
set_option maxRecDepth 100000 in
set_option maxHeartbeats 4000000 in
theorem k_X9_isAsSeen {g : XC} (C : XOk g cX9_isAsSeen RX9 wsX9_isAsSeen rm_X9_isAsSeen 2) (q : Nat → Nat) (F : Nat → Int) (c_this_far : Nat → Int) (c_this_seenSplit : Nat → Int) (c_this_seenWeight : Nat → Int)  (K : Int → Prop) (hK : ∀ (r : Int), K r → (narrow .boolean (.int (jz r)) = .int (jz r) → FinI g 0 0 (w_X9_isAsSeen (xG g) q F c_this_far c_this_seenSplit c_this_seenWeight) (jz r))) (h : wp (f_X9_isAsSeen (F 0) (F 4) c_this_far c_this_seenSplit c_this_seenWeight) K) : WW g 0 0 (w_X9_isAsSeen (xG g) q F c_this_far c_this_seenSplit c_this_seenWeight) 0 [(0, .ref (q 35))] [] := by
  unfold f_X9_isAsSeen at h
  refine r_iconst C (pc := 0) dX9_isAsSeen_0 ?_
  refine r_istore_n C (pc := 1) dX9_isAsSeen_1 rfl (by decide) (L' := [(0, .ref (q 35)), (1, .int (jz 0))]) rfl ?_
  refine lq1_e (fun (v1_2 : Int) => WW g 0 0 (w_X9_isAsSeen (xG g) q F c_this_far c_this_seenSplit c_this_seenWeight) 2 [(0, .ref (q 35)), (1, .int (jz v1_2))] []) h (fun n2 hn2 v1_2 h => ?_)
  refine r_iload_n C (pc := 2) dX9_isAsSeen_2 rfl 1 rfl ?_
  refine r_aload_n C (pc := 3) dX9_isAsSeen_3 rfl 0 rfl ?_
  refine r_get C (pc := 4) dX9_isAsSeen_4 gf_X9_isAsSeen_239 0 rfl rfl ?_
  refine r_icmp_ge C (pc := 7) 50 dX9_isAsSeen_7 rfl h (fun c7 h => ?_) (fun c7 h => ?_)
  · refine r_aload_n C (pc := 50) dX9_isAsSeen_50 rfl 0 rfl ?_
    obtain ⟨r51, e51, h⟩ := wp_b1 h
    refine b_cVi C (pc := 51) dX9_isAsSeen_51 (c_X9_barred (xl g) (xG g) q F c_this_far r51 e51) rfl gX9_isAsSeen_X9_barred ⟨rfl, rfl⟩ 0 hd_X9_barred ⟨Nat.le_of_ble_eq_true rfl, Nat.le_of_ble_eq_true rfl⟩ rfl 0 rfl rfl rfl [0, 1] rfl (srt_nd 0 rfl) (ws' := w_X9_isAsSeen (xG g) q F c_this_far c_this_seenSplit c_this_seenWeight) (Put.m rfl rfl rfl) rfl (rest := []) rfl (Nat.le_of_ble_eq_true rfl) ⟨Nat.zero_le _, Nat.zero_le _⟩ ?_
    refine jn_e (fun (k62 : Int → Option Int) => ∀ (s0_62 : Int), wp (k62 s0_62) K → WW g 0 0 (w_X9_isAsSeen (xG g) q F c_this_far c_this_seenSplit c_this_seenWeight) 62 [] [.int (jz s0_62)]) h (fun s0_62 h => ?_) (fun k62 hk62 h => ?_)
    · exact r_iret C (pc := 62) dX9_isAsSeen_62 (hK s0_62 (wp_s (wp_g h).2) (nB (wp_g h).1).1)
    · refine r_if_ge C (pc := 54) 61 dX9_isAsSeen_54 rfl h (fun c54 h => ?_) (fun c54 h => ?_)
      · refine r_iconst C (pc := 61) dX9_isAsSeen_61 ?_
        refine r_sub [] rfl ?_
        exact hk62 0 h
      · refine r_iconst C (pc := 57) dX9_isAsSeen_57 ?_
        refine r_goto C (pc := 58) 62 dX9_isAsSeen_58 rfl ?_
        refine r_sub [] rfl ?_
        exact hk62 1 h
  · refine r_aload_n C (pc := 10) dX9_isAsSeen_10 rfl 0 rfl ?_
    refine r_aload_n C (pc := 11) dX9_isAsSeen_11 rfl 0 rfl ?_
    refine r_get C (pc := 12) dX9_isAsSeen_12 gf_X9_isAsSeen_25 0 rfl rfl ?_
    refine r_iload_n C (pc := 15) dX9_isAsSeen_15 rfl 1 rfl ?_
    refine r_iald C (pc := 16) dX9_isAsSeen_16 h 2 rfl (fun h => ?_)
    obtain ⟨r17, e17, h⟩ := wp_b1 h
    refine b_cVi C (pc := 17) dX9_isAsSeen_17 (c_X9_isSplit (xl g) (xG g) q F (c_this_seenSplit (ix v1_2)) r17 e17) rfl gX9_isAsSeen_X9_isSplit ⟨rfl, rfl⟩ 1 hd_X9_isSplit ⟨Nat.le_of_ble_eq_true rfl, Nat.le_of_ble_eq_true rfl⟩ rfl 0 rfl rfl rfl [0] rfl (srt_nd 0 rfl) (ws' := w_X9_isAsSeen (xG g) q F c_this_far c_this_seenSplit c_this_seenWeight) (Put.m rfl rfl rfl) rfl (rest := []) rfl (Nat.le_of_ble_eq_true rfl) ⟨Nat.zero_le _, Nat.zero_le _⟩ ?_
    refine jn_e (fun (k42 : Option Int) => wp (k42) K → WW g 0 0 (w_X9_isAsSeen (xG g) q F c_this_far c_this_seenSplit c_this_seenWeight) 42 [] []) h (fun h => ?_) (fun k42 hk42 h => ?_)
    · refine r_iconst C (pc := 42) dX9_isAsSeen_42 ?_
      exact r_iret C (pc := 43) dX9_isAsSeen_43 (hK 0 (wp_s h) (nB rfl).1)
    · refine r_if_eq C (pc := 20) 42 dX9_isAsSeen_20 rfl h (fun c20 h => ?_) (fun c20 h => ?_)
      · refine r_sub [] rfl ?_
        exact hk42 h
      · refine r_aload_n C (pc := 23) dX9_isAsSeen_23 rfl 0 rfl ?_
        refine r_aload_n C (pc := 24) dX9_isAsSeen_24 rfl 0 rfl ?_
        refine r_get C (pc := 25) dX9_isAsSeen_25 gf_X9_isAsSeen_25 0 rfl rfl ?_
        refine r_iload_n C (pc := 28) dX9_isAsSeen_28 rfl 1 rfl ?_
        refine r_iald C (pc := 29) dX9_isAsSeen_29 h 2 rfl (fun h => ?_)
        obtain ⟨r30, e30, h⟩ := wp_b1 h
        refine b_cVi C (pc := 30) dX9_isAsSeen_30 (c_X9_weightOf (xl g) (xG g) q F c_this_far (c_this_seenSplit (ix v1_2)) r30 e30) rfl gX9_isAsSeen_X9_weightOf ⟨rfl, rfl⟩ 1 hd_X9_weightOf ⟨Nat.le_of_ble_eq_true rfl, Nat.le_of_ble_eq_true rfl⟩ rfl 0 rfl rfl rfl [0, 1] rfl (srt_nd 0 rfl) (ws' := w_X9_isAsSeen (xG g) q F c_this_far c_this_seenSplit c_this_seenWeight) (Put.m rfl rfl rfl) rfl (rest := []) rfl (Nat.le_of_ble_eq_true rfl) ⟨Nat.zero_le _, Nat.zero_le _⟩ ?_
        refine r_aload_n C (pc := 33) dX9_isAsSeen_33 rfl 0 rfl ?_
        refine r_get C (pc := 34) dX9_isAsSeen_34 gf_X9_isAsSeen_28 0 rfl rfl ?_
        refine r_iload_n C (pc := 37) dX9_isAsSeen_37 rfl 1 rfl ?_
        refine r_iald C (pc := 38) dX9_isAsSeen_38 h 3 rfl (fun h => ?_)
        refine r_icmp_eq C (pc := 39) 44 dX9_isAsSeen_39 rfl h (fun c39 h => ?_) (fun c39 h => ?_)
        · refine r_iinc C (pc := 44) dX9_isAsSeen_44 1 rfl (by decide) (L' := [(0, .ref (q 35)), (1, .int (jz (v1_2 + 1)))]) rfl ?_
          refine r_goto C (pc := 47) 2 dX9_isAsSeen_47 rfl ?_
          exact hn2 (v1_2 + 1) h
        · refine r_sub [] rfl ?_
          exact hk42 h
theorem c_X9_isAsSeen (l : Launch) (G : gG) (q : Nat → Nat) (F : Nat → Int) (c_this_far : Nat → Int) (c_this_seenSplit : Nat → Int) (c_this_seenWeight : Nat → Int) (r : Int) (hf : f_X9_isAsSeen (F 0) (F 4) c_this_far c_this_seenSplit c_this_seenWeight = some r) : CTi l yX9_isAsSeen wsX9_isAsSeen rm_X9_isAsSeen G (w_X9_isAsSeen G q F c_this_far c_this_seenSplit c_this_seenWeight) [.ref (q 35)] (jz r) (w_X9_isAsSeen G q F c_this_far c_this_seenSplit c_this_seenWeight) := CTi_of (by decide) rfl rfl (Nat.le_of_ble_eq_true rfl) (fun g C hG hl hF => by
    subst hG
    subst hl
    exact k_X9_isAsSeen C q F c_this_far c_this_seenSplit c_this_seenWeight (fun x => x = r) (fun r' e => by cases e; exact hF) ⟨_, hf, rfl⟩)

-- TightHullsModel.fits(III)I
def f_X9_fits (p1 : Int) (p2 : Int) (p3 : Int) (m_points : Int) (m_seen : Int) (c_this_far : Nat → Int) (c_this_seenSplit : Nat → Int) (c_this_seenWeight : Nat → Int) : Option (Int × (Nat → Int)) := bd1 (f_X9_areTwo p1 p2 m_points) (fun r3 => jn (some ((-1), c_this_far)) (fun (k18 : Option (Int × (Nat → Int))) => if eqI r3 0 = true then k18 else (bd1 (f_X9_in p3 0 1) (fun r12 => if eqI r12 0 = true then k18 else (bd1 (f_X9_d p1 p2 c_this_far) (fun r23 => lq4 (fun (n39 : Int → Int → Int → (Nat → Int) → Option (Int × (Nat → Int))) (v5_39 : Int) (v6_39 : Int) (v7_39 : Int) (this_far_39 : Nat → Int) => if ltI v7_39 0 = true then (bd1 (f_X9_lays p1 p2 r23 this_far_39) (fun this_far_77 => jn (fun (s0_91 : Int) => some (s0_91, this_far_77)) (fun (k91 : Int → Option (Int × (Nat → Int))) => if eqI p3 0 = true then (k91 v5_39) else (k91 v6_39)))) else (bd1 (f_X9_lays p1 p2 v7_39 this_far_39) (fun this_far_49 => bd1 (f_X9_isAsSeen m_points m_seen this_far_49 c_this_seenSplit c_this_seenWeight) (fun r53 => jn (fun (v5_66 : Int) (v6_66 : Int) => n39 v5_66 v6_66 (v7_39 + (-1)) this_far_49) (fun (k66 : Int → Int → Option (Int × (Nat → Int))) => if eqI r53 0 = true then (k66 v5_39 v6_39) else (k66 (v5_39 + 1) v7_39)))))) 300 0 (-5) 40 c_this_far))))))
abbrev rm_X9_fits : Room := { frames := 3, cells := 0, slots := 0, locals := 109 }
abbrev w_X9_fits (G : gG) (q : Nat → Nat) (F : Nat → Int) (c_this_far : Nat → Int) (c_this_seenSplit : Nat → Int) (c_this_seenWeight : Nat → Int) : va_W := [((q 35), oX9 F q), ((q 1), aI G 25 c_this_far), ((q 5), aI G 4 c_this_seenSplit), ((q 6), aI G 4 c_this_seenWeight)]
theorem hd_X9_fits : yX9_fits.cls = RX9 ∧ yX9_fits.cls ≠ "java/lang/invoke/MethodHandle" ∧ yX9_fits.cls ≠ "java/lang/invoke/VarHandle" ∧ (parseMethodDescriptor yX9_fits.desc).map (fun d => d.parameters.length) = some 3 := by decide +kernel
set_option maxRecDepth 100000 in
set_option maxHeartbeats 4000000 in
theorem k_X9_fits {g : XC} (C : XOk g cX9_fits RX9 wsX9_fits rm_X9_fits 8) (q : Nat → Nat) (F : Nat → Int) (c_this_far : Nat → Int) (c_this_seenSplit : Nat → Int) (c_this_seenWeight : Nat → Int) (p1 : Int) (p2 : Int) (p3 : Int) (K : (Int × (Nat → Int)) → Prop) (hK : ∀ (r : Int) (o0 : Nat → Int), K (r, o0) → (narrow .int (.int (jz r)) = .int (jz r) → FinI g 0 0 (w_X9_fits (xG g) q F o0 c_this_seenSplit c_this_seenWeight) (jz r))) (h : wp (f_X9_fits p1 p2 p3 (F 0) (F 4) c_this_far c_this_seenSplit c_this_seenWeight) K) : WW g 0 0 (w_X9_fits (xG g) q F c_this_far c_this_seenSplit c_this_seenWeight) 0 [(0, .ref (q 35)), (1, .int (jz p1)), (2, .int (jz p2)), (3, .int (jz p3))] [] := by
  unfold f_X9_fits at h
  refine r_aload_n C (pc := 0) dX9_fits_0 rfl 0 rfl ?_
  refine r_iload_n C (pc := 1) dX9_fits_1 rfl 1 rfl ?_
  refine r_iload_n C (pc := 2) dX9_fits_2 rfl 2 rfl ?_
  obtain ⟨r3, e3, h⟩ := wp_b1 h
  refine b_cVi C (pc := 3) dX9_fits_3 (c_X9_areTwo (xl g) (xG g) q F p1 p2 r3 e3) rfl gX9_fits_X9_areTwo ⟨rfl, rfl⟩ 2 hd_X9_areTwo ⟨Nat.le_of_ble_eq_true rfl, Nat.le_of_ble_eq_true rfl⟩ rfl 0 rfl rfl rfl [0] rfl (srt_nd 0 rfl) (ws' := w_X9_fits (xG g) q F c_this_far c_this_seenSplit c_this_seenWeight) (Put.m rfl rfl rfl) rfl (rest := []) rfl (Nat.le_of_ble_eq_true rfl) ⟨Nat.zero_le _, Nat.zero_le _⟩ ?_
  refine jn_e (fun (k18 : Option (Int × (Nat → Int))) => wp (k18) K → WW g 0 0 (w_X9_fits (xG g) q F c_this_far c_this_seenSplit c_this_seenWeight) 18 [] []) h (fun h => ?_) (fun k18 hk18 h => ?_)
  · refine r_iconst C (pc := 18) dX9_fits_18 ?_
    exact r_iret C (pc := 19) dX9_fits_19 (hK (-1) c_this_far (wp_s h) rfl)
  · refine r_if_eq C (pc := 6) 18 dX9_fits_6 rfl h (fun c6 h => ?_) (fun c6 h => ?_)
    · refine r_sub [] rfl ?_
      exact hk18 h
    · refine r_iload_n C (pc := 9) dX9_fits_9 rfl 3 rfl ?_
      refine r_iconst C (pc := 10) dX9_fits_10 ?_
      refine r_iconst C (pc := 11) dX9_fits_11 ?_
      obtain ⟨r12, e12, h⟩ := wp_b1 h
      refine b_cSi C (pc := 12) dX9_fits_12 (c_X9_in (xl g) (xG g) p3 0 1 r12 e12) rfl gX9_fits_X9_in ⟨rfl, rfl⟩ 3 hd_X9_in ⟨Nat.le_of_ble_eq_true rfl, Nat.le_of_ble_eq_true rfl⟩ rfl [] rfl (srt_nd 0 rfl) (ws' := w_X9_fits (xG g) q F c_this_far c_this_seenSplit c_this_seenWeight) (Put.m rfl rfl rfl) rfl (rest := []) rfl (Nat.le_of_ble_eq_true rfl) ⟨Nat.zero_le _, Nat.zero_le _⟩ ?_
      refine r_if_ne C (pc := 15) 20 dX9_fits_15 rfl h (fun c15 h => ?_) (fun c15 h => ?_)
      · refine r_aload_n C (pc := 20) dX9_fits_20 rfl 0 rfl ?_
        refine r_iload_n C (pc := 21) dX9_fits_21 rfl 1 rfl ?_
        refine r_iload_n C (pc := 22) dX9_fits_22 rfl 2 rfl ?_
        obtain ⟨r23, e23, h⟩ := wp_b1 h
        refine b_cVi C (pc := 23) dX9_fits_23 (c_X9_d (xl g) (xG g) q F c_this_far p1 p2 r23 e23) rfl gX9_fits_X9_d ⟨rfl, rfl⟩ 2 hd_X9_d ⟨Nat.le_of_ble_eq_true rfl, Nat.le_of_ble_eq_true rfl⟩ rfl 0 rfl rfl rfl [0, 1] rfl (srt_nd 0 rfl) (ws' := w_X9_fits (xG g) q F c_this_far c_this_seenSplit c_this_seenWeight) (Put.m rfl rfl rfl) rfl (rest := []) rfl (Nat.le_of_ble_eq_true rfl) ⟨Nat.zero_le _, Nat.zero_le _⟩ ?_
        refine r_istore C (pc := 26) dX9_fits_26 (by decide) (L' := [(0, .ref (q 35)), (1, .int (jz p1)), (2, .int (jz p2)), (3, .int (jz p3)), (4, .int (jz r23))]) rfl ?_
        refine r_iconst C (pc := 28) dX9_fits_28 ?_
        refine r_istore C (pc := 29) dX9_fits_29 (by decide) (L' := [(0, .ref (q 35)), (1, .int (jz p1)), (2, .int (jz p2)), (3, .int (jz p3)), (4, .int (jz r23)), (5, .int (jz 0))]) rfl ?_
        refine r_bipush C (pc := 31) dX9_fits_31 rfl ?_
        refine r_istore C (pc := 33) dX9_fits_33 (by decide) (L' := [(0, .ref (q 35)), (1, .int (jz p1)), (2, .int (jz p2)), (3, .int (jz p3)), (4, .int (jz r23)), (5, .int (jz 0)), (6, .int (jz (-5)))]) rfl ?_
        refine r_bipush C (pc := 35) dX9_fits_35 rfl ?_
        refine r_istore C (pc := 37) dX9_fits_37 (by decide) (L' := [(0, .ref (q 35)), (1, .int (jz p1)), (2, .int (jz p2)), (3, .int (jz p3)), (4, .int (jz r23)), (5, .int (jz 0)), (6, .int (jz (-5))), (7, .int (jz 40))]) rfl ?_
        refine lq4_e (fun (v5_39 : Int) (v6_39 : Int) (v7_39 : Int) (this_far_39 : Nat → Int) => WW g 0 0 (w_X9_fits (xG g) q F this_far_39 c_this_seenSplit c_this_seenWeight) 39 [(0, .ref (q 35)), (1, .int (jz p1)), (2, .int (jz p2)), (3, .int (jz p3)), (4, .int (jz r23)), (5, .int (jz v5_39)), (6, .int (jz v6_39)), (7, .int (jz v7_39))] []) h (fun n39 hn39 v5_39 v6_39 v7_39 this_far_39 h => ?_)
        refine r_iload C (pc := 39) dX9_fits_39 7 rfl ?_
        refine r_if_lt C (pc := 41) 72 dX9_fits_41 rfl h (fun c41 h => ?_) (fun c41 h => ?_)
        · refine r_aload_n C (pc := 72) dX9_fits_72 rfl 0 rfl ?_
          refine r_iload_n C (pc := 73) dX9_fits_73 rfl 1 rfl ?_
          refine r_iload_n C (pc := 74) dX9_fits_74 rfl 2 rfl ?_
          refine r_iload C (pc := 75) dX9_fits_75 4 rfl ?_
          obtain ⟨this_far_77, e77, h⟩ := wp_b1 h
          refine b_cVv C (pc := 77) dX9_fits_77 (c_X9_lays (xl g) (xG g) q F this_far_39 p1 p2 r23 this_far_77 e77) rfl gX9_fits_X9_lays ⟨rfl, rfl⟩ 3 hd_X9_lays ⟨Nat.le_of_ble_eq_true rfl, Nat.le_of_ble_eq_true rfl⟩ rfl 0 rfl rfl rfl [0, 1] rfl (srt_nd 0 rfl) (ws' := w_X9_fits (xG g) q F this_far_77 c_this_seenSplit c_this_seenWeight) (Put.m rfl rfl rfl) rfl (rest := []) rfl (Nat.le_of_ble_eq_true rfl) ⟨Nat.zero_le _, Nat.zero_le _⟩ ?_
          refine r_iload_n C (pc := 80) dX9_fits_80 rfl 3 rfl ?_
          refine jn_e (fun (k91 : Int → Option (Int × (Nat → Int))) => ∀ (s0_91 : Int), wp (k91 s0_91) K → WW g 0 0 (w_X9_fits (xG g) q F this_far_77 c_this_seenSplit c_this_seenWeight) 91 [] [.int (jz s0_91)]) h (fun s0_91 h => ?_) (fun k91 hk91 h => ?_)
          · exact r_iret C (pc := 91) dX9_fits_91 (hK s0_91 this_far_77 (wp_s h) rfl)
          · refine r_if_ne C (pc := 81) 89 dX9_fits_81 rfl h (fun c81 h => ?_) (fun c81 h => ?_)
            · refine r_iload C (pc := 89) dX9_fits_89 6 rfl ?_
              refine r_sub [] rfl ?_
              exact hk91 v6_39 h
            · refine r_iload C (pc := 84) dX9_fits_84 5 rfl ?_
              refine r_goto C (pc := 86) 91 dX9_fits_86 rfl ?_
              refine r_sub [] rfl ?_
              exact hk91 v5_39 h
        · refine r_aload_n C (pc := 44) dX9_fits_44 rfl 0 rfl ?_
          refine r_iload_n C (pc := 45) dX9_fits_45 rfl 1 rfl ?_
          refine r_iload_n C (pc := 46) dX9_fits_46 rfl 2 rfl ?_
          refine r_iload C (pc := 47) dX9_fits_47 7 rfl ?_
          obtain ⟨this_far_49, e49, h⟩ := wp_b1 h
          refine b_cVv C (pc := 49) dX9_fits_49 (c_X9_lays (xl g) (xG g) q F this_far_39 p1 p2 v7_39 this_far_49 e49) rfl gX9_fits_X9_lays ⟨rfl, rfl⟩ 3 hd_X9_lays ⟨Nat.le_of_ble_eq_true rfl, Nat.le_of_ble_eq_true rfl⟩ rfl 0 rfl rfl rfl [0, 1] rfl (srt_nd 0 rfl) (ws' := w_X9_fits (xG g) q F this_far_49 c_this_seenSplit c_this_seenWeight) (Put.m rfl rfl rfl) rfl (rest := []) rfl (Nat.le_of_ble_eq_true rfl) ⟨Nat.zero_le _, Nat.zero_le _⟩ ?_
          refine r_aload_n C (pc := 52) dX9_fits_52 rfl 0 rfl ?_
          obtain ⟨r53, e53, h⟩ := wp_b1 h
          refine b_cVi C (pc := 53) dX9_fits_53 (c_X9_isAsSeen (xl g) (xG g) q F this_far_49 c_this_seenSplit c_this_seenWeight r53 e53) rfl gX9_fits_X9_isAsSeen ⟨rfl, rfl⟩ 0 hd_X9_isAsSeen ⟨Nat.le_of_ble_eq_true rfl, Nat.le_of_ble_eq_true rfl⟩ rfl 0 rfl rfl rfl [0, 1, 2, 3] rfl (srt_nd 0 rfl) (ws' := w_X9_fits (xG g) q F this_far_49 c_this_seenSplit c_this_seenWeight) (Put.m rfl rfl rfl) rfl (rest := []) rfl (Nat.le_of_ble_eq_true rfl) ⟨Nat.zero_le _, Nat.zero_le _⟩ ?_
          refine jn_e (fun (k66 : Int → Int → Option (Int × (Nat → Int))) => ∀ (v5_66 : Int) (v6_66 : Int), wp (k66 v5_66 v6_66) K → WW g 0 0 (w_X9_fits (xG g) q F this_far_49 c_this_seenSplit c_this_seenWeight) 66 [(0, .ref (q 35)), (1, .int (jz p1)), (2, .int (jz p2)), (3, .int (jz p3)), (4, .int (jz r23)), (5, .int (jz v5_66)), (6, .int (jz v6_66)), (7, .int (jz v7_39))] []) h (fun v5_66 v6_66 h => ?_) (fun k66 hk66 h => ?_)
          · refine r_iinc C (pc := 66) dX9_fits_66 7 rfl (by decide) (L' := [(0, .ref (q 35)), (1, .int (jz p1)), (2, .int (jz p2)), (3, .int (jz p3)), (4, .int (jz r23)), (5, .int (jz v5_66)), (6, .int (jz v6_66)), (7, .int (jz (v7_39 + (-1))))]) rfl ?_
            refine r_goto C (pc := 69) 39 dX9_fits_69 rfl ?_
            exact hn39 v5_66 v6_66 (v7_39 + (-1)) this_far_49 h
          · refine r_if_eq C (pc := 56) 66 dX9_fits_56 rfl h (fun c56 h => ?_) (fun c56 h => ?_)
            · exact hk66 v5_39 v6_39 h
            · refine r_iinc C (pc := 59) dX9_fits_59 5 rfl (by decide) (L' := [(0, .ref (q 35)), (1, .int (jz p1)), (2, .int (jz p2)), (3, .int (jz p3)), (4, .int (jz r23)), (5, .int (jz (v5_39 + 1))), (6, .int (jz v6_39)), (7, .int (jz v7_39))]) rfl ?_
              refine r_iload C (pc := 62) dX9_fits_62 7 rfl ?_
              refine r_istore C (pc := 64) dX9_fits_64 (by decide) (L' := [(0, .ref (q 35)), (1, .int (jz p1)), (2, .int (jz p2)), (3, .int (jz p3)), (4, .int (jz r23)), (5, .int (jz (v5_39 + 1))), (6, .int (jz v7_39)), (7, .int (jz v7_39))]) rfl ?_
              exact hk66 (v5_39 + 1) v7_39 h
      · refine r_sub [] rfl ?_
        exact hk18 h
theorem c_X9_fits (l : Launch) (G : gG) (q : Nat → Nat) (F : Nat → Int) (c_this_far : Nat → Int) (c_this_seenSplit : Nat → Int) (c_this_seenWeight : Nat → Int) (p1 : Int) (p2 : Int) (p3 : Int) (r : Int) (o0 : Nat → Int) (hf : f_X9_fits p1 p2 p3 (F 0) (F 4) c_this_far c_this_seenSplit c_this_seenWeight = some (r, o0)) : CTi l yX9_fits wsX9_fits rm_X9_fits G (w_X9_fits G q F c_this_far c_this_seenSplit c_this_seenWeight) [.ref (q 35), .int (jz p1), .int (jz p2), .int (jz p3)] (jz r) (w_X9_fits G q F o0 c_this_seenSplit c_this_seenWeight) := CTi_of (by decide) rfl rfl (Nat.le_of_ble_eq_true rfl) (fun g C hG hl hF => by
    subst hG
    subst hl
    exact k_X9_fits C q F c_this_far c_this_seenSplit c_this_seenWeight p1 p2 p3 (fun x => x = (r, o0)) (fun r' o0' e => by cases e; exact hF) ⟨_, hf, rfl⟩)

-- TightHullsModel.asPart(III)J
def f_X9_asPart (p1 : Int) (p2 : Int) (p3 : Int) : Option Int64 := lq2 (fun (n5 : Int → Int → Option Int64) (v3_5 : Int) (v4_5 : Int) => if eqI v4_5 0 = true then (jn (fun (s0_41 : Int64) => some s0_41) (fun (k41 : Int64 → Option Int64) => if eqI p3 0 = true then (grd (!(eqI v3_5 0)) (k41 (i2lI (divI p1 v3_5)))) else (grd (!(eqI v3_5 0)) (k41 (i2lI (divI p2 v3_5)))))) else (grd (!(eqI v4_5 0)) (lv ((remI v3_5 v4_5)) (fun x14 => n5 v4_5 x14)))) 300 p1 p2
abbrev rm_X9_asPart : Room := { frames := 0, cells := 0, slots := 0, locals := 0 }
abbrev w_X9_asPart (G : gG)  : va_W := []
theorem hd_X9_asPart : yX9_asPart.cls ≠ "java/lang/invoke/MethodHandle" ∧ yX9_asPart.cls ≠ "java/lang/invoke/VarHandle" ∧ (parseMethodDescriptor yX9_asPart.desc).map (fun d => d.parameters.length) = some 3 := by decide +kernel
set_option maxRecDepth 100000 in
set_option maxHeartbeats 4000000 in
theorem k_X9_asPart {g : XC} (C : XOk g cX9_asPart RX9 wsX9_asPart rm_X9_asPart 6)  (p1 : Int) (p2 : Int) (p3 : Int) (K : Int64 → Prop) (hK : ∀ (r : Int64), K r → FinL g 0 0 (w_X9_asPart (xG g)) r) (h : wp (f_X9_asPart p1 p2 p3) K) : WW g 0 0 (w_X9_asPart (xG g)) 0 [(0, .int (jz p1)), (1, .int (jz p2)), (2, .int (jz p3))] [] := by
  unfold f_X9_asPart at h
  refine r_iload_n C (pc := 0) dX9_asPart_0 rfl 0 rfl ?_
  refine r_istore_n C (pc := 1) dX9_asPart_1 rfl (by decide) (L' := [(0, .int (jz p1)), (1, .int (jz p2)), (2, .int (jz p3)), (3, .int (jz p1))]) rfl ?_
  refine r_iload_n C (pc := 2) dX9_asPart_2 rfl 1 rfl ?_
  refine r_istore C (pc := 3) dX9_asPart_3 (by decide) (L' := [(0, .int (jz p1)), (1, .int (jz p2)), (2, .int (jz p3)), (3, .int (jz p1)), (4, .int (jz p2))]) rfl ?_
  refine lq2_e (fun (v3_5 : Int) (v4_5 : Int) => WW g 0 0 (w_X9_asPart (xG g)) 5 [(0, .int (jz p1)), (1, .int (jz p2)), (2, .int (jz p3)), (3, .int (jz v3_5)), (4, .int (jz v4_5))] []) h (fun n5 hn5 v3_5 v4_5 h => ?_)
  refine r_iload C (pc := 5) dX9_asPart_5 4 rfl ?_
  refine r_if_eq C (pc := 7) 26 dX9_asPart_7 rfl h (fun c7 h => ?_) (fun c7 h => ?_)
  · refine r_iload_n C (pc := 26) dX9_asPart_26 rfl 2 rfl ?_
    refine jn_e (fun (k41 : Int64 → Option Int64) => ∀ (s0_41 : Int64), wp (k41 s0_41) K → WW g 0 0 (w_X9_asPart (xG g)) 41 [] [.long s0_41]) h (fun s0_41 h => ?_) (fun k41 hk41 h => ?_)
    · exact r_lret C (pc := 41) dX9_asPart_41 (hK s0_41 (wp_s h))
    · refine r_if_ne C (pc := 27) 37 dX9_asPart_27 rfl h (fun c27 h => ?_) (fun c27 h => ?_)
      · refine r_iload_n C (pc := 37) dX9_asPart_37 rfl 1 rfl ?_
        refine r_iload_n C (pc := 38) dX9_asPart_38 rfl 3 rfl ?_
        refine r_idiv C (pc := 39) dX9_asPart_39 h (fun h => ?_)
        refine r_i2l C (pc := 40) dX9_asPart_40 ?_
        refine r_sub [] rfl ?_
        exact hk41 (i2lI (divI p2 v3_5)) h
      · refine r_iload_n C (pc := 30) dX9_asPart_30 rfl 0 rfl ?_
        refine r_iload_n C (pc := 31) dX9_asPart_31 rfl 3 rfl ?_
        refine r_idiv C (pc := 32) dX9_asPart_32 h (fun h => ?_)
        refine r_i2l C (pc := 33) dX9_asPart_33 ?_
        refine r_goto C (pc := 34) 41 dX9_asPart_34 rfl ?_
        refine r_sub [] rfl ?_
        exact hk41 (i2lI (divI p1 v3_5)) h
  · refine r_iload_n C (pc := 10) dX9_asPart_10 rfl 3 rfl ?_
    refine r_iload C (pc := 11) dX9_asPart_11 4 rfl ?_
    refine r_irem C (pc := 13) dX9_asPart_13 h (fun h => ?_)
    refine r_let h (fun x14 h => ?_)
    refine r_istore C (pc := 14) dX9_asPart_14 (by decide) (L' := [(0, .int (jz p1)), (1, .int (jz p2)), (2, .int (jz p3)), (3, .int (jz v3_5)), (4, .int (jz v4_5)), (5, .int (jz x14))]) rfl ?_
    refine r_iload C (pc := 16) dX9_asPart_16 4 rfl ?_
    refine r_istore_n C (pc := 18) dX9_asPart_18 rfl (by decide) (L' := [(0, .int (jz p1)), (1, .int (jz p2)), (2, .int (jz p3)), (3, .int (jz v4_5)), (4, .int (jz v4_5)), (5, .int (jz x14))]) rfl ?_
    refine r_iload C (pc := 19) dX9_asPart_19 5 rfl ?_
    refine r_istore C (pc := 21) dX9_asPart_21 (by decide) (L' := [(0, .int (jz p1)), (1, .int (jz p2)), (2, .int (jz p3)), (3, .int (jz v4_5)), (4, .int (jz x14)), (5, .int (jz x14))]) rfl ?_
    refine r_goto C (pc := 23) 5 dX9_asPart_23 rfl ?_
    refine r_sub [0, 1, 2, 3, 4] rfl ?_
    exact hn5 v4_5 x14 h
theorem c_X9_asPart (l : Launch) (G : gG) (p1 : Int) (p2 : Int) (p3 : Int) (r : Int64) (hf : f_X9_asPart p1 p2 p3 = some r) : CTl l yX9_asPart wsX9_asPart rm_X9_asPart G (w_X9_asPart G) [.int (jz p1), .int (jz p2), .int (jz p3)] r (w_X9_asPart G) := CTl_of (by decide) rfl rfl (Nat.le_of_ble_eq_true rfl) (fun g C hG hl hF => by
    subst hG
    subst hl
    exact k_X9_asPart C p1 p2 p3 (fun x => x = r) (fun r' e => by cases e; exact hF) ⟨_, hf, rfl⟩)

-- TightHullsModel.odds(III)J
def f_X9_odds (p1 : Int) (p2 : Int) (p3 : Int) (m_points : Int) (c_this_far : Nat → Int) : Option Int64 := bd1 (f_X9_areTwo p1 p2 m_points) (fun r3 => jn (some (-9223372036854775808 : Int64)) (fun (k25 : Option Int64) => if eqI r3 0 = true then k25 else (bd1 (f_X9_in p3 0 1) (fun r12 => if eqI r12 0 = true then k25 else (bd1 (f_X9_counting m_points c_this_far) (fun r19 => if eqI r19 0 = true then k25 else (lq2 (fun (n35 : Int → Int → Option Int64) (v4_35 : Int) (v5_35 : Int) => bd1 (f_X9_isSplit v5_35 m_points) (fun r38 => if eqI r38 0 = true then (bd1 (f_X9_counting m_points c_this_far) (fun r87 => bd1 (f_X9_asPart v4_35 r87 p3) (fun r91 => some r91))) else (bd1 (f_X9_weightOf v5_35 m_points c_this_far) (fun r49 => jn (fun (s1_75 : Int) => lv ((v4_35 + s1_75)) (fun x76 => n35 x76 (v5_35 + 2))) (fun (k75 : Int → Option Int64) => jn (k75 0) (fun (k74 : Option Int64) => if ltI 0 r49 = true then (if eqI (andI (shrI v5_35 p1) 1) (andI (shrI v5_35 p2) 1) = true then k74 else (k75 1)) else k74)))))) 300 0 2)))))))
abbrev rm_X9_odds : Room := { frames := 3, cells := 0, slots := 0, locals := 110 }
abbrev w_X9_odds (G : gG) (q : Nat → Nat) (F : Nat → Int) (c_this_far : Nat → Int) : va_W := [((q 35), oX9 F q), ((q 1), aI G 25 c_this_far)]
theorem hd_X9_odds : yX9_odds.cls = RX9 ∧ yX9_odds.cls ≠ "java/lang/invoke/MethodHandle" ∧ yX9_odds.cls ≠ "java/lang/invoke/VarHandle" ∧ (parseMethodDescriptor yX9_odds.desc).map (fun d => d.parameters.length) = some 3 := by decide +kernel
theorem mm_X9_odds_1 : Jvm.Cond.constantLong RX9 245 (-9223372036854775808) ∈ wsX9_odds := List.mem_of_getElem? (i := 1) rfl
set_option maxRecDepth 100000 in
set_option maxHeartbeats 4000000 in
theorem k_X9_odds {g : XC} (C : XOk g cX9_odds RX9 wsX9_odds rm_X9_odds 6) (q : Nat → Nat) (F : Nat → Int) (c_this_far : Nat → Int) (p1 : Int) (p2 : Int) (p3 : Int) (K : Int64 → Prop) (hK : ∀ (r : Int64), K r → FinL g 0 0 (w_X9_odds (xG g) q F c_this_far) r) (h : wp (f_X9_odds p1 p2 p3 (F 0) c_this_far) K) : WW g 0 0 (w_X9_odds (xG g) q F c_this_far) 0 [(0, .ref (q 35)), (1, .int (jz p1)), (2, .int (jz p2)), (3, .int (jz p3))] [] := by
  unfold f_X9_odds at h
  refine r_aload_n C (pc := 0) dX9_odds_0 rfl 0 rfl ?_
  refine r_iload_n C (pc := 1) dX9_odds_1 rfl 1 rfl ?_
  refine r_iload_n C (pc := 2) dX9_odds_2 rfl 2 rfl ?_
  obtain ⟨r3, e3, h⟩ := wp_b1 h
  refine b_cVi C (pc := 3) dX9_odds_3 (c_X9_areTwo (xl g) (xG g) q F p1 p2 r3 e3) rfl gX9_odds_X9_areTwo ⟨rfl, rfl⟩ 2 hd_X9_areTwo ⟨Nat.le_of_ble_eq_true rfl, Nat.le_of_ble_eq_true rfl⟩ rfl 0 rfl rfl rfl [0] rfl (srt_nd 0 rfl) (ws' := w_X9_odds (xG g) q F c_this_far) (Put.m rfl rfl rfl) rfl (rest := []) rfl (Nat.le_of_ble_eq_true rfl) ⟨Nat.zero_le _, Nat.zero_le _⟩ ?_
  refine jn_e (fun (k25 : Option Int64) => wp (k25) K → WW g 0 0 (w_X9_odds (xG g) q F c_this_far) 25 [] []) h (fun h => ?_) (fun k25 hk25 h => ?_)
  · refine r_ldc2 C (pc := 25) dX9_odds_25 mm_X9_odds_1 ?_
    exact r_lret C (pc := 28) dX9_odds_28 (hK (-9223372036854775808 : Int64) (wp_s h))
  · refine r_if_eq C (pc := 6) 25 dX9_odds_6 rfl h (fun c6 h => ?_) (fun c6 h => ?_)
    · refine r_sub [] rfl ?_
      exact hk25 h
    · refine r_iload_n C (pc := 9) dX9_odds_9 rfl 3 rfl ?_
      refine r_iconst C (pc := 10) dX9_odds_10 ?_
      refine r_iconst C (pc := 11) dX9_odds_11 ?_
      obtain ⟨r12, e12, h⟩ := wp_b1 h
      refine b_cSi C (pc := 12) dX9_odds_12 (c_X9_in (xl g) (xG g) p3 0 1 r12 e12) rfl gX9_odds_X9_in ⟨rfl, rfl⟩ 3 hd_X9_in ⟨Nat.le_of_ble_eq_true rfl, Nat.le_of_ble_eq_true rfl⟩ rfl [] rfl (srt_nd 0 rfl) (ws' := w_X9_odds (xG g) q F c_this_far) (Put.m rfl rfl rfl) rfl (rest := []) rfl (Nat.le_of_ble_eq_true rfl) ⟨Nat.zero_le _, Nat.zero_le _⟩ ?_
      refine r_if_eq C (pc := 15) 25 dX9_odds_15 rfl h (fun c15 h => ?_) (fun c15 h => ?_)
      · refine r_sub [] rfl ?_
        exact hk25 h
      · refine r_aload_n C (pc := 18) dX9_odds_18 rfl 0 rfl ?_
        obtain ⟨r19, e19, h⟩ := wp_b1 h
        refine b_cVi C (pc := 19) dX9_odds_19 (c_X9_counting (xl g) (xG g) q F c_this_far r19 e19) rfl gX9_odds_X9_counting ⟨rfl, rfl⟩ 0 hd_X9_counting ⟨Nat.le_of_ble_eq_true rfl, Nat.le_of_ble_eq_true rfl⟩ rfl 0 rfl rfl rfl [0, 1] rfl (srt_nd 0 rfl) (ws' := w_X9_odds (xG g) q F c_this_far) (Put.m rfl rfl rfl) rfl (rest := []) rfl (Nat.le_of_ble_eq_true rfl) ⟨Nat.zero_le _, Nat.zero_le _⟩ ?_
        refine r_if_ne C (pc := 22) 29 dX9_odds_22 rfl h (fun c22 h => ?_) (fun c22 h => ?_)
        · refine r_iconst C (pc := 29) dX9_odds_29 ?_
          refine r_istore C (pc := 30) dX9_odds_30 (by decide) (L' := [(0, .ref (q 35)), (1, .int (jz p1)), (2, .int (jz p2)), (3, .int (jz p3)), (4, .int (jz 0))]) rfl ?_
          refine r_iconst C (pc := 32) dX9_odds_32 ?_
          refine r_istore C (pc := 33) dX9_odds_33 (by decide) (L' := [(0, .ref (q 35)), (1, .int (jz p1)), (2, .int (jz p2)), (3, .int (jz p3)), (4, .int (jz 0)), (5, .int (jz 2))]) rfl ?_
          refine lq2_e (fun (v4_35 : Int) (v5_35 : Int) => WW g 0 0 (w_X9_odds (xG g) q F c_this_far) 35 [(0, .ref (q 35)), (1, .int (jz p1)), (2, .int (jz p2)), (3, .int (jz p3)), (4, .int (jz v4_35)), (5, .int (jz v5_35))] []) h (fun n35 hn35 v4_35 v5_35 h => ?_)
          refine r_aload_n C (pc := 35) dX9_odds_35 rfl 0 rfl ?_
          refine r_iload C (pc := 36) dX9_odds_36 5 rfl ?_
          obtain ⟨r38, e38, h⟩ := wp_b1 h
          refine b_cVi C (pc := 38) dX9_odds_38 (c_X9_isSplit (xl g) (xG g) q F v5_35 r38 e38) rfl gX9_odds_X9_isSplit ⟨rfl, rfl⟩ 1 hd_X9_isSplit ⟨Nat.le_of_ble_eq_true rfl, Nat.le_of_ble_eq_true rfl⟩ rfl 0 rfl rfl rfl [0] rfl (srt_nd 0 rfl) (ws' := w_X9_odds (xG g) q F c_this_far) (Put.m rfl rfl rfl) rfl (rest := []) rfl (Nat.le_of_ble_eq_true rfl) ⟨Nat.zero_le _, Nat.zero_le _⟩ ?_
          refine r_if_eq C (pc := 41) 84 dX9_odds_41 rfl h (fun c41 h => ?_) (fun c41 h => ?_)
          · refine r_iload C (pc := 84) dX9_odds_84 4 rfl ?_
            refine r_aload_n C (pc := 86) dX9_odds_86 rfl 0 rfl ?_
            obtain ⟨r87, e87, h⟩ := wp_b1 h
            refine b_cVi C (pc := 87) dX9_odds_87 (c_X9_counting (xl g) (xG g) q F c_this_far r87 e87) rfl gX9_odds_X9_counting ⟨rfl, rfl⟩ 0 hd_X9_counting ⟨Nat.le_of_ble_eq_true rfl, Nat.le_of_ble_eq_true rfl⟩ rfl 0 rfl rfl rfl [0, 1] rfl (srt_nd 0 rfl) (ws' := w_X9_odds (xG g) q F c_this_far) (Put.m rfl rfl rfl) rfl (rest := [.int (jz v4_35)]) rfl (Nat.le_of_ble_eq_true rfl) ⟨Nat.zero_le _, Nat.zero_le _⟩ ?_
            refine r_iload_n C (pc := 90) dX9_odds_90 rfl 3 rfl ?_
            obtain ⟨r91, e91, h⟩ := wp_b1 h
            refine b_cSl C (pc := 91) dX9_odds_91 (c_X9_asPart (xl g) (xG g) v4_35 r87 p3 r91 e91) rfl gX9_odds_X9_asPart ⟨rfl, rfl⟩ 3 hd_X9_asPart ⟨Nat.le_of_ble_eq_true rfl, Nat.le_of_ble_eq_true rfl⟩ rfl [] rfl (srt_nd 0 rfl) (ws' := w_X9_odds (xG g) q F c_this_far) (Put.m rfl rfl rfl) rfl (rest := []) rfl (Nat.le_of_ble_eq_true rfl) ⟨Nat.zero_le _, Nat.zero_le _⟩ ?_
            exact r_lret C (pc := 94) dX9_odds_94 (hK r91 (wp_s h))
          · refine r_iload C (pc := 44) dX9_odds_44 4 rfl ?_
            refine r_aload_n C (pc := 46) dX9_odds_46 rfl 0 rfl ?_
            refine r_iload C (pc := 47) dX9_odds_47 5 rfl ?_
            obtain ⟨r49, e49, h⟩ := wp_b1 h
            refine b_cVi C (pc := 49) dX9_odds_49 (c_X9_weightOf (xl g) (xG g) q F c_this_far v5_35 r49 e49) rfl gX9_odds_X9_weightOf ⟨rfl, rfl⟩ 1 hd_X9_weightOf ⟨Nat.le_of_ble_eq_true rfl, Nat.le_of_ble_eq_true rfl⟩ rfl 0 rfl rfl rfl [0, 1] rfl (srt_nd 0 rfl) (ws' := w_X9_odds (xG g) q F c_this_far) (Put.m rfl rfl rfl) rfl (rest := [.int (jz v4_35)]) rfl (Nat.le_of_ble_eq_true rfl) ⟨Nat.zero_le _, Nat.zero_le _⟩ ?_
            refine jn_e (fun (k75 : Int → Option Int64) => ∀ (s1_75 : Int), wp (k75 s1_75) K → WW g 0 0 (w_X9_odds (xG g) q F c_this_far) 75 [(0, .ref (q 35)), (1, .int (jz p1)), (2, .int (jz p2)), (3, .int (jz p3)), (5, .int (jz v5_35))] [.int (jz s1_75), .int (jz v4_35)]) h (fun s1_75 h => ?_) (fun k75 hk75 h => ?_)
            · refine r_iadd C (pc := 75) dX9_odds_75 ?_
              refine r_let h (fun x76 h => ?_)
              refine r_istore C (pc := 76) dX9_odds_76 (by decide) (L' := [(0, .ref (q 35)), (1, .int (jz p1)), (2, .int (jz p2)), (3, .int (jz p3)), (4, .int (jz x76)), (5, .int (jz v5_35))]) rfl ?_
              refine r_iinc C (pc := 78) dX9_odds_78 5 rfl (by decide) (L' := [(0, .ref (q 35)), (1, .int (jz p1)), (2, .int (jz p2)), (3, .int (jz p3)), (4, .int (jz x76)), (5, .int (jz (v5_35 + 2)))]) rfl ?_
              refine r_goto C (pc := 81) 35 dX9_odds_81 rfl ?_
              exact hn35 x76 (v5_35 + 2) h
            · refine jn_e (fun (k74 : Option Int64) => wp (k74) K → WW g 0 0 (w_X9_odds (xG g) q F c_this_far) 74 [(0, .ref (q 35)), (1, .int (jz p1)), (2, .int (jz p2)), (3, .int (jz p3)), (5, .int (jz v5_35))] [.int (jz v4_35)]) h (fun h => ?_) (fun k74 hk74 h => ?_)
              · refine r_iconst C (pc := 74) dX9_odds_74 ?_
                exact hk75 0 h
              · refine r_if_le C (pc := 52) 74 dX9_odds_52 rfl h (fun c52 h => ?_) (fun c52 h => ?_)
                · refine r_sub [0, 1, 2, 3, 5] rfl ?_
                  exact hk74 h
                · refine r_iload C (pc := 55) dX9_odds_55 5 rfl ?_
                  refine r_iload_n C (pc := 57) dX9_odds_57 rfl 1 rfl ?_
                  refine r_ishr C (pc := 58) dX9_odds_58 ?_
                  refine r_iconst C (pc := 59) dX9_odds_59 ?_
                  refine r_iand C (pc := 60) dX9_odds_60 ?_
                  refine r_iload C (pc := 61) dX9_odds_61 5 rfl ?_
                  refine r_iload_n C (pc := 63) dX9_odds_63 rfl 2 rfl ?_
                  refine r_ishr C (pc := 64) dX9_odds_64 ?_
                  refine r_iconst C (pc := 65) dX9_odds_65 ?_
                  refine r_iand C (pc := 66) dX9_odds_66 ?_
                  refine r_icmp_eq C (pc := 67) 74 dX9_odds_67 rfl h (fun c67 h => ?_) (fun c67 h => ?_)
                  · refine r_sub [0, 1, 2, 3, 5] rfl ?_
                    exact hk74 h
                  · refine r_iconst C (pc := 70) dX9_odds_70 ?_
                    refine r_goto C (pc := 71) 75 dX9_odds_71 rfl ?_
                    refine r_sub [0, 1, 2, 3, 5] rfl ?_
                    exact hk75 1 h
        · refine r_sub [] rfl ?_
          exact hk25 h
theorem c_X9_odds (l : Launch) (G : gG) (q : Nat → Nat) (F : Nat → Int) (c_this_far : Nat → Int) (p1 : Int) (p2 : Int) (p3 : Int) (r : Int64) (hf : f_X9_odds p1 p2 p3 (F 0) c_this_far = some r) : CTl l yX9_odds wsX9_odds rm_X9_odds G (w_X9_odds G q F c_this_far) [.ref (q 35), .int (jz p1), .int (jz p2), .int (jz p3)] r (w_X9_odds G q F c_this_far) := CTl_of (by decide) rfl rfl (Nat.le_of_ble_eq_true rfl) (fun g C hG hl hF => by
    subst hG
    subst hl
    exact k_X9_odds C q F c_this_far p1 p2 p3 (fun x => x = r) (fun r' e => by cases e; exact hF) ⟨_, hf, rfl⟩)

-- TightHullsModel.mean(I)J
def f_X9_mean (p1 : Int) (m_points : Int) (c_this_far : Nat → Int) : Option Int64 := bd1 (f_X9_in p1 0 1) (fun r3 => jn (fun (s0_36 : Int64) => some s0_36) (fun (k36 : Int64 → Option Int64) => if eqI r3 0 = true then (k36 (-9223372036854775808 : Int64)) else (bd1 (f_X9_girth m_points c_this_far) (fun r10 => grd (!(eqI 2 0)) (bd1 (f_X9_asPart r10 (divI (m_points * (m_points - 1)) 2) p1) (fun r27 => k36 r27))))))
abbrev rm_X9_mean : Room := { frames := 2, cells := 0, slots := 0, locals := 45 }
abbrev w_X9_mean (G : gG) (q : Nat → Nat) (F : Nat → Int) (c_this_far : Nat → Int) : va_W := [((q 35), oX9 F q), ((q 1), aI G 25 c_this_far)]
theorem hd_X9_mean : yX9_mean.cls = RX9 ∧ yX9_mean.cls ≠ "java/lang/invoke/MethodHandle" ∧ yX9_mean.cls ≠ "java/lang/invoke/VarHandle" ∧ (parseMethodDescriptor yX9_mean.desc).map (fun d => d.parameters.length) = some 1 := by decide +kernel
theorem mm_X9_mean_2 : Jvm.Cond.constantLong RX9 245 (-9223372036854775808) ∈ wsX9_mean := List.mem_of_getElem? (i := 2) rfl
theorem in_X9_mean_X9 : ∀ w ∈ u_ws RX9 TX9 35, w ∈ wsX9_mean := fun w h => List.mem_cons_of_mem _ (List.mem_append_right _ (h))
theorem gf_X9_mean_9 : GF wsX9_mean RX9 9 8 0 := ⟨RX9, TX9, 35, rfl, in_X9_mean_X9, by decide, List.mem_of_getElem? (i := 1) rfl⟩
set_option maxRecDepth 100000 in
set_option maxHeartbeats 4000000 in
theorem k_X9_mean {g : XC} (C : XOk g cX9_mean RX9 wsX9_mean rm_X9_mean 2) (q : Nat → Nat) (F : Nat → Int) (c_this_far : Nat → Int) (p1 : Int) (K : Int64 → Prop) (hK : ∀ (r : Int64), K r → FinL g 0 0 (w_X9_mean (xG g) q F c_this_far) r) (h : wp (f_X9_mean p1 (F 0) c_this_far) K) : WW g 0 0 (w_X9_mean (xG g) q F c_this_far) 0 [(0, .ref (q 35)), (1, .int (jz p1))] [] := by
  unfold f_X9_mean at h
  refine r_iload_n C (pc := 0) dX9_mean_0 rfl 1 rfl ?_
  refine r_iconst C (pc := 1) dX9_mean_1 ?_
  refine r_iconst C (pc := 2) dX9_mean_2 ?_
  obtain ⟨r3, e3, h⟩ := wp_b1 h
  refine b_cSi C (pc := 3) dX9_mean_3 (c_X9_in (xl g) (xG g) p1 0 1 r3 e3) rfl gX9_mean_X9_in ⟨rfl, rfl⟩ 3 hd_X9_in ⟨Nat.le_of_ble_eq_true rfl, Nat.le_of_ble_eq_true rfl⟩ rfl [] rfl (srt_nd 0 rfl) (ws' := w_X9_mean (xG g) q F c_this_far) (Put.m rfl rfl rfl) rfl (rest := []) rfl (Nat.le_of_ble_eq_true rfl) ⟨Nat.zero_le _, Nat.zero_le _⟩ ?_
  refine jn_e (fun (k36 : Int64 → Option Int64) => ∀ (s0_36 : Int64), wp (k36 s0_36) K → WW g 0 0 (w_X9_mean (xG g) q F c_this_far) 36 [] [.long s0_36]) h (fun s0_36 h => ?_) (fun k36 hk36 h => ?_)
  · exact r_lret C (pc := 36) dX9_mean_36 (hK s0_36 (wp_s h))
  · refine r_if_eq C (pc := 6) 33 dX9_mean_6 rfl h (fun c6 h => ?_) (fun c6 h => ?_)
    · refine r_ldc2 C (pc := 33) dX9_mean_33 mm_X9_mean_2 ?_
      refine r_sub [] rfl ?_
      exact hk36 (-9223372036854775808 : Int64) h
    · refine r_aload_n C (pc := 9) dX9_mean_9 rfl 0 rfl ?_
      obtain ⟨r10, e10, h⟩ := wp_b1 h
      refine b_cVi C (pc := 10) dX9_mean_10 (c_X9_girth (xl g) (xG g) q F c_this_far r10 e10) rfl gX9_mean_X9_girth ⟨rfl, rfl⟩ 0 hd_X9_girth ⟨Nat.le_of_ble_eq_true rfl, Nat.le_of_ble_eq_true rfl⟩ rfl 0 rfl rfl rfl [0, 1] rfl (srt_nd 0 rfl) (ws' := w_X9_mean (xG g) q F c_this_far) (Put.m rfl rfl rfl) rfl (rest := []) rfl (Nat.le_of_ble_eq_true rfl) ⟨Nat.zero_le _, Nat.zero_le _⟩ ?_
      refine r_aload_n C (pc := 13) dX9_mean_13 rfl 0 rfl ?_
      refine r_get C (pc := 14) dX9_mean_14 gf_X9_mean_9 0 rfl rfl ?_
      refine r_aload_n C (pc := 17) dX9_mean_17 rfl 0 rfl ?_
      refine r_get C (pc := 18) dX9_mean_18 gf_X9_mean_9 0 rfl rfl ?_
      refine r_iconst C (pc := 21) dX9_mean_21 ?_
      refine r_isub C (pc := 22) dX9_mean_22 ?_
      refine r_imul C (pc := 23) dX9_mean_23 ?_
      refine r_iconst C (pc := 24) dX9_mean_24 ?_
      refine r_idiv C (pc := 25) dX9_mean_25 h (fun h => ?_)
      refine r_iload_n C (pc := 26) dX9_mean_26 rfl 1 rfl ?_
      obtain ⟨r27, e27, h⟩ := wp_b1 h
      refine b_cSl C (pc := 27) dX9_mean_27 (c_X9_asPart (xl g) (xG g) r10 (divI ((F 0) * ((F 0) - 1)) 2) p1 r27 e27) rfl gX9_mean_X9_asPart ⟨rfl, rfl⟩ 3 hd_X9_asPart ⟨Nat.le_of_ble_eq_true rfl, Nat.le_of_ble_eq_true rfl⟩ rfl [] rfl (srt_nd 0 rfl) (ws' := w_X9_mean (xG g) q F c_this_far) (Put.m rfl rfl rfl) rfl (rest := []) rfl (Nat.le_of_ble_eq_true rfl) ⟨Nat.zero_le _, Nat.zero_le _⟩ ?_
      refine r_goto C (pc := 30) 36 dX9_mean_30 rfl ?_
      refine r_sub [] rfl ?_
      exact hk36 r27 h
theorem c_X9_mean (l : Launch) (G : gG) (q : Nat → Nat) (F : Nat → Int) (c_this_far : Nat → Int) (p1 : Int) (r : Int64) (hf : f_X9_mean p1 (F 0) c_this_far = some r) : CTl l yX9_mean wsX9_mean rm_X9_mean G (w_X9_mean G q F c_this_far) [.ref (q 35), .int (jz p1)] r (w_X9_mean G q F c_this_far) := CTl_of (by decide) rfl rfl (Nat.le_of_ble_eq_true rfl) (fun g C hG hl hF => by
    subst hG
    subst hl
    exact k_X9_mean C q F c_this_far p1 (fun x => x = r) (fun r' e => by cases e; exact hF) ⟨_, hf, rfl⟩)

-- TightHullsModel.event(II)I
def f_X9_event (p1 : Int) (p2 : Int) (m_points : Int) (m_events : Int) (c_this_eventWhat : Nat → Int) (c_this_eventBy : Nat → Int) : Option (Int × Int × (Nat → Int) × (Nat → Int)) := if eqI p1 (-1) = true then (some (0, 0, c_this_eventWhat, c_this_eventBy)) else (bd1 (f_X9_in p1 0 2) (fun r15 => jn (some ((-1), m_events, c_this_eventWhat, c_this_eventBy)) (fun (k33 : Option (Int × Int × (Nat → Int) × (Nat → Int))) => if eqI r15 0 = true then k33 else (jn (jn (some ((-2), m_events, c_this_eventWhat, c_this_eventBy)) (fun (k59 : Option (Int × Int × (Nat → Int) × (Nat → Int))) => jn (jn (if eqI m_events 8 = true then (some ((-4), m_events, c_this_eventWhat, c_this_eventBy)) else (grd (iin m_events 8) (grd (iin m_events 8) (lv ((m_events + 1)) (fun x101 => some (x101, x101, (up c_this_eventWhat (ix m_events) p1), (up c_this_eventBy (ix m_events) p2))))))) (fun (k62 : Option (Int × Int × (Nat → Int) × (Nat → Int))) => if eqI p1 2 = true then (if eqI p2 0 = true then k62 else k59) else k62)) (fun (k50 : Option (Int × Int × (Nat → Int) × (Nat → Int))) => if eqI p1 1 = true then (bd1 (f_X9_in p2 0 9) (fun r44 => if eqI r44 0 = true then k59 else k50)) else k50))) (fun (k35 : Option (Int × Int × (Nat → Int) × (Nat → Int))) => if eqI p1 0 = true then (bd1 (f_X9_isPoint p2 m_points) (fun r27 => if eqI r27 0 = true then k33 else k35)) else k35)))))
abbrev rm_X9_event : Room := { frames := 2, cells := 0, slots := 0, locals := 43 }
abbrev w_X9_event (G : gG) (q : Nat → Nat) (F : Nat → Int) (c_this_eventWhat : Nat → Int) (c_this_eventBy : Nat → Int) : va_W := [((q 35), oX9 F q), ((q 8), aI G 8 c_this_eventWhat), ((q 9), aI G 8 c_this_eventBy)]
theorem hd_X9_event : yX9_event.cls = RX9 ∧ yX9_event.cls ≠ "java/lang/invoke/MethodHandle" ∧ yX9_event.cls ≠ "java/lang/invoke/VarHandle" ∧ (parseMethodDescriptor yX9_event.desc).map (fun d => d.parameters.length) = some 2 := by decide +kernel
theorem in_X9_event_X9 : ∀ w ∈ u_ws RX9 TX9 35, w ∈ wsX9_event := fun w h => List.mem_cons_of_mem _ (List.mem_append_right _ (h))
theorem gf_X9_event_251 : GF wsX9_event RX9 251 8 7 := ⟨RX9, TX9, 35, rfl, in_X9_event_X9, by decide, List.mem_of_getElem? (i := 1) rfl⟩
theorem gf_X9_event_31 : GF wsX9_event RX9 31 8 8 := ⟨RX9, TX9, 35, rfl, in_X9_event_X9, by decide, List.mem_of_getElem? (i := 2) rfl⟩
theorem gf_X9_event_34 : GF wsX9_event RX9 34 8 9 := ⟨RX9, TX9, 35, rfl, in_X9_event_X9, by decide, List.mem_of_getElem? (i := 3) rfl⟩
theorem pf_X9_event_251 : PF wsX9_event RX9 251 8 7 .int false := ⟨RX9, TX9, 35, tyX9, rfl, in_X9_event_X9, tyX9_ok, nmX9, by decide, List.mem_of_getElem? (i := 1) rfl, rfl, rfl, rfl⟩
set_option maxRecDepth 100000 in
set_option maxHeartbeats 4000000 in
theorem k_X9_event {g : XC} (C : XOk g cX9_event RX9 wsX9_event rm_X9_event 3) (q : Nat → Nat) (F : Nat → Int) (c_this_eventWhat : Nat → Int) (c_this_eventBy : Nat → Int) (p1 : Int) (p2 : Int) (K : (Int × Int × (Nat → Int) × (Nat → Int)) → Prop) (hK : ∀ (r : Int) (o0 : Int) (o1 : Nat → Int) (o2 : Nat → Int), K (r, o0, o1, o2) → (narrow .int (.int (jz r)) = .int (jz r) → FinI g 0 0 (w_X9_event (xG g) q (up F 7 o0) o1 o2) (jz r))) (h : wp (f_X9_event p1 p2 (F 0) (F 7) c_this_eventWhat c_this_eventBy) K) : WW g 0 0 (w_X9_event (xG g) q F c_this_eventWhat c_this_eventBy) 0 [(0, .ref (q 35)), (1, .int (jz p1)), (2, .int (jz p2))] [] := by
  unfold f_X9_event at h
  refine r_iload_n C (pc := 0) dX9_event_0 rfl 1 rfl ?_
  refine r_iconst C (pc := 1) dX9_event_1 ?_
  refine r_icmp_ne C (pc := 2) 12 dX9_event_2 rfl h (fun c2 h => ?_) (fun c2 h => ?_)
  · refine r_iload_n C (pc := 12) dX9_event_12 rfl 1 rfl ?_
    refine r_iconst C (pc := 13) dX9_event_13 ?_
    refine r_iconst C (pc := 14) dX9_event_14 ?_
    obtain ⟨r15, e15, h⟩ := wp_b1 h
    refine b_cSi C (pc := 15) dX9_event_15 (c_X9_in (xl g) (xG g) p1 0 2 r15 e15) rfl gX9_event_X9_in ⟨rfl, rfl⟩ 3 hd_X9_in ⟨Nat.le_of_ble_eq_true rfl, Nat.le_of_ble_eq_true rfl⟩ rfl [] rfl (srt_nd 0 rfl) (ws' := w_X9_event (xG g) q F c_this_eventWhat c_this_eventBy) (Put.m rfl rfl rfl) rfl (rest := []) rfl (Nat.le_of_ble_eq_true rfl) ⟨Nat.zero_le _, Nat.zero_le _⟩ ?_
    refine jn_e (fun (k33 : Option (Int × Int × (Nat → Int) × (Nat → Int))) => wp (k33) K → WW g 0 0 (w_X9_event (xG g) q F c_this_eventWhat c_this_eventBy) 33 [] []) h (fun h => ?_) (fun k33 hk33 h => ?_)
    · refine r_iconst C (pc := 33) dX9_event_33 ?_
      exact r_iret C (pc := 34) dX9_event_34 (hK (-1) (F 7) c_this_eventWhat c_this_eventBy (wp_s h) rfl)
    · refine r_if_eq C (pc := 18) 33 dX9_event_18 rfl h (fun c18 h => ?_) (fun c18 h => ?_)
      · refine r_sub [] rfl ?_
        exact hk33 h
      · refine r_iload_n C (pc := 21) dX9_event_21 rfl 1 rfl ?_
        refine jn_e (fun (k35 : Option (Int × Int × (Nat → Int) × (Nat → Int))) => wp (k35) K → WW g 0 0 (w_X9_event (xG g) q F c_this_eventWhat c_this_eventBy) 35 [(0, .ref (q 35)), (1, .int (jz p1)), (2, .int (jz p2))] []) h (fun h => ?_) (fun k35 hk35 h => ?_)
        · refine r_iload_n C (pc := 35) dX9_event_35 rfl 1 rfl ?_
          refine r_iconst C (pc := 36) dX9_event_36 ?_
          refine jn_e (fun (k59 : Option (Int × Int × (Nat → Int) × (Nat → Int))) => wp (k59) K → WW g 0 0 (w_X9_event (xG g) q F c_this_eventWhat c_this_eventBy) 59 [] []) h (fun h => ?_) (fun k59 hk59 h => ?_)
          · refine r_bipush C (pc := 59) dX9_event_59 rfl ?_
            exact r_iret C (pc := 61) dX9_event_61 (hK (-2) (F 7) c_this_eventWhat c_this_eventBy (wp_s h) rfl)
          · refine jn_e (fun (k50 : Option (Int × Int × (Nat → Int) × (Nat → Int))) => wp (k50) K → WW g 0 0 (w_X9_event (xG g) q F c_this_eventWhat c_this_eventBy) 50 [(0, .ref (q 35)), (1, .int (jz p1)), (2, .int (jz p2))] []) h (fun h => ?_) (fun k50 hk50 h => ?_)
            · refine r_iload_n C (pc := 50) dX9_event_50 rfl 1 rfl ?_
              refine r_iconst C (pc := 51) dX9_event_51 ?_
              refine jn_e (fun (k62 : Option (Int × Int × (Nat → Int) × (Nat → Int))) => wp (k62) K → WW g 0 0 (w_X9_event (xG g) q F c_this_eventWhat c_this_eventBy) 62 [(0, .ref (q 35)), (1, .int (jz p1)), (2, .int (jz p2))] []) h (fun h => ?_) (fun k62 hk62 h => ?_)
              · refine r_aload_n C (pc := 62) dX9_event_62 rfl 0 rfl ?_
                refine r_get C (pc := 63) dX9_event_63 gf_X9_event_251 0 rfl rfl ?_
                refine r_bipush C (pc := 66) dX9_event_66 rfl ?_
                refine r_icmp_ne C (pc := 68) 74 dX9_event_68 rfl h (fun c68 h => ?_) (fun c68 h => ?_)
                · refine r_aload_n C (pc := 74) dX9_event_74 rfl 0 rfl ?_
                  refine r_get C (pc := 75) dX9_event_75 gf_X9_event_31 0 rfl rfl ?_
                  refine r_aload_n C (pc := 78) dX9_event_78 rfl 0 rfl ?_
                  refine r_get C (pc := 79) dX9_event_79 gf_X9_event_251 0 rfl rfl ?_
                  refine r_iload_n C (pc := 82) dX9_event_82 rfl 1 rfl ?_
                  refine r_iast C (pc := 83) dX9_event_83 h 1 rfl (ws' := w_X9_event (xG g) q F (up c_this_eventWhat (ix (F 7)) p1) c_this_eventBy) rfl (fun h => ?_)
                  refine r_aload_n C (pc := 84) dX9_event_84 rfl 0 rfl ?_
                  refine r_get C (pc := 85) dX9_event_85 gf_X9_event_34 0 rfl rfl ?_
                  refine r_aload_n C (pc := 88) dX9_event_88 rfl 0 rfl ?_
                  refine r_get C (pc := 89) dX9_event_89 gf_X9_event_251 0 rfl rfl ?_
                  refine r_iload_n C (pc := 92) dX9_event_92 rfl 2 rfl ?_
                  refine r_iast C (pc := 93) dX9_event_93 h 2 rfl (ws' := w_X9_event (xG g) q F (up c_this_eventWhat (ix (F 7)) p1) (up c_this_eventBy (ix (F 7)) p2)) rfl (fun h => ?_)
                  refine r_aload_n C (pc := 94) dX9_event_94 rfl 0 rfl ?_
                  refine r_dup C (pc := 95) dX9_event_95 rfl ?_
                  refine r_get C (pc := 96) dX9_event_96 gf_X9_event_251 0 rfl rfl ?_
                  refine r_iconst C (pc := 99) dX9_event_99 ?_
                  refine r_iadd C (pc := 100) dX9_event_100 ?_
                  refine r_let h (fun x101 h => ?_)
                  refine r_puti C (pc := 101) dX9_event_101 pf_X9_event_251 0 rfl (Nat.le_of_ble_eq_true rfl) (ws' := w_X9_event (xG g) q (up F 7 x101) (up c_this_eventWhat (ix (F 7)) p1) (up c_this_eventBy (ix (F 7)) p2)) rfl ?_
                  refine r_aload_n C (pc := 104) dX9_event_104 rfl 0 rfl ?_
                  refine r_get C (pc := 105) dX9_event_105 gf_X9_event_251 0 rfl rfl ?_
                  exact r_iret C (pc := 108) dX9_event_108 (hK x101 x101 (up c_this_eventWhat (ix (F 7)) p1) (up c_this_eventBy (ix (F 7)) p2) (wp_s h) rfl)
                · refine r_bipush C (pc := 71) dX9_event_71 rfl ?_
                  exact r_iret C (pc := 73) dX9_event_73 (hK (-4) (F 7) c_this_eventWhat c_this_eventBy (wp_s h) rfl)
              · refine r_icmp_ne C (pc := 52) 62 dX9_event_52 rfl h (fun c52 h => ?_) (fun c52 h => ?_)
                · exact hk62 h
                · refine r_iload_n C (pc := 55) dX9_event_55 rfl 2 rfl ?_
                  refine r_if_eq C (pc := 56) 62 dX9_event_56 rfl h (fun c56 h => ?_) (fun c56 h => ?_)
                  · exact hk62 h
                  · refine r_sub [] rfl ?_
                    exact hk59 h
            · refine r_icmp_ne C (pc := 37) 50 dX9_event_37 rfl h (fun c37 h => ?_) (fun c37 h => ?_)
              · exact hk50 h
              · refine r_iload_n C (pc := 40) dX9_event_40 rfl 2 rfl ?_
                refine r_iconst C (pc := 41) dX9_event_41 ?_
                refine r_bipush C (pc := 42) dX9_event_42 rfl ?_
                obtain ⟨r44, e44, h⟩ := wp_b1 h
                refine b_cSi C (pc := 44) dX9_event_44 (c_X9_in (xl g) (xG g) p2 0 9 r44 e44) rfl gX9_event_X9_in ⟨rfl, rfl⟩ 3 hd_X9_in ⟨Nat.le_of_ble_eq_true rfl, Nat.le_of_ble_eq_true rfl⟩ rfl [] rfl (srt_nd 0 rfl) (ws' := w_X9_event (xG g) q F c_this_eventWhat c_this_eventBy) (Put.m rfl rfl rfl) rfl (rest := []) rfl (Nat.le_of_ble_eq_true rfl) ⟨Nat.zero_le _, Nat.zero_le _⟩ ?_
                refine r_if_eq C (pc := 47) 59 dX9_event_47 rfl h (fun c47 h => ?_) (fun c47 h => ?_)
                · refine r_sub [] rfl ?_
                  exact hk59 h
                · exact hk50 h
        · refine r_if_ne C (pc := 22) 35 dX9_event_22 rfl h (fun c22 h => ?_) (fun c22 h => ?_)
          · exact hk35 h
          · refine r_aload_n C (pc := 25) dX9_event_25 rfl 0 rfl ?_
            refine r_iload_n C (pc := 26) dX9_event_26 rfl 2 rfl ?_
            obtain ⟨r27, e27, h⟩ := wp_b1 h
            refine b_cVi C (pc := 27) dX9_event_27 (c_X9_isPoint (xl g) (xG g) q F p2 r27 e27) rfl gX9_event_X9_isPoint ⟨rfl, rfl⟩ 1 hd_X9_isPoint ⟨Nat.le_of_ble_eq_true rfl, Nat.le_of_ble_eq_true rfl⟩ rfl 0 rfl rfl rfl [0] rfl (srt_nd 0 rfl) (ws' := w_X9_event (xG g) q F c_this_eventWhat c_this_eventBy) (Put.m rfl rfl rfl) rfl (rest := []) rfl (Nat.le_of_ble_eq_true rfl) ⟨Nat.zero_le _, Nat.zero_le _⟩ ?_
            refine r_if_ne C (pc := 30) 35 dX9_event_30 rfl h (fun c30 h => ?_) (fun c30 h => ?_)
            · exact hk35 h
            · refine r_sub [] rfl ?_
              exact hk33 h
  · refine r_aload_n C (pc := 5) dX9_event_5 rfl 0 rfl ?_
    refine r_iconst C (pc := 6) dX9_event_6 ?_
    refine r_puti C (pc := 7) dX9_event_7 pf_X9_event_251 0 rfl (Nat.le_of_ble_eq_true rfl) (ws' := w_X9_event (xG g) q (up F 7 0) c_this_eventWhat c_this_eventBy) rfl ?_
    refine r_iconst C (pc := 10) dX9_event_10 ?_
    exact r_iret C (pc := 11) dX9_event_11 (hK 0 0 c_this_eventWhat c_this_eventBy (wp_s h) rfl)
theorem c_X9_event (l : Launch) (G : gG) (q : Nat → Nat) (F : Nat → Int) (c_this_eventWhat : Nat → Int) (c_this_eventBy : Nat → Int) (p1 : Int) (p2 : Int) (r : Int) (o0 : Int) (o1 : Nat → Int) (o2 : Nat → Int) (hf : f_X9_event p1 p2 (F 0) (F 7) c_this_eventWhat c_this_eventBy = some (r, o0, o1, o2)) : CTi l yX9_event wsX9_event rm_X9_event G (w_X9_event G q F c_this_eventWhat c_this_eventBy) [.ref (q 35), .int (jz p1), .int (jz p2)] (jz r) (w_X9_event G q (up F 7 o0) o1 o2) := CTi_of (by decide) rfl rfl (Nat.le_of_ble_eq_true rfl) (fun g C hG hl hF => by
    subst hG
    subst hl
    exact k_X9_event C q F c_this_eventWhat c_this_eventBy p1 p2 (fun x => x = (r, o0, o1, o2)) (fun r' o0' o1' o2' e => by cases e; exact hF) ⟨_, hf, rfl⟩)

-- TightHullsModel.happens(II)V
def f_X9_happens (p1 : Int) (p2 : Int) (m_points : Int) (c_this_far : Nat → Int) (c_this_kept : Nat → Int) : Option ((Nat → Int) × (Nat → Int)) := if eqI p1 2 = true then (bd3 (f_X9_shortens m_points c_this_far c_this_kept) (fun r6 this_far_6 this_kept_6 => some (this_far_6, this_kept_6))) else (lq2 (fun (n13 : Int → (Nat → Int) → Option ((Nat → Int) × (Nat → Int))) (v3_13 : Int) (this_far_13 : Nat → Int) => if ltI v3_13 m_points = true then (lq2 (fun (n24 : Int → (Nat → Int) → Option ((Nat → Int) × (Nat → Int))) (v4_24 : Int) (this_far_24 : Nat → Int) => if ltI v4_24 v3_13 = true then (jn (fun (this_far_90 : Nat → Int) => n24 (v4_24 + 1) this_far_90) (fun (k90 : (Nat → Int) → Option ((Nat → Int) × (Nat → Int))) => if eqI p1 1 = true then (bd1 (f_X9_d v3_13 v4_24 this_far_24) (fun r44 => bd1 (f_X9_lays v3_13 v4_24 (maxI 0 (r44 - p2)) this_far_24) (fun this_far_52 => k90 this_far_52))) else (jn (bd1 (f_X9_d v3_13 v4_24 this_far_24) (fun r79 => bd1 (f_X9_lays v3_13 v4_24 (minI 40 (r79 + 1)) this_far_24) (fun this_far_87 => k90 this_far_87))) (fun (k69 : Option ((Nat → Int) × (Nat → Int))) => if eqI v3_13 p2 = true then k69 else (if eqI v4_24 p2 = true then k69 else (k90 this_far_24)))))) else (n13 (v3_13 + 1) this_far_24)) 300 0 this_far_13) else (some (this_far_13, c_this_kept))) 300 0 c_this_far)
abbrev rm_X9_happens : Room := { frames := 2, cells := 0, slots := 0, locals := 84 }
abbrev w_X9_happens (G : gG) (q : Nat → Nat) (F : Nat → Int) (c_this_far : Nat → Int) (c_this_kept : Nat → Int) : va_W := [((q 35), oX9 F q), ((q 1), aI G 25 c_this_far), ((q 20), aI G 25 c_this_kept)]
theorem hd_X9_happens : yX9_happens.cls = RX9 ∧ yX9_happens.cls ≠ "java/lang/invoke/MethodHandle" ∧ yX9_happens.cls ≠ "java/lang/invoke/VarHandle" ∧ (parseMethodDescriptor yX9_happens.desc).map (fun d => d.parameters.length) = some 2 := by decide +kernel
theorem in_X9_happens_X9 : ∀ w ∈ u_ws RX9 TX9 35, w ∈ wsX9_happens := fun w h => List.mem_cons_of_mem _ (List.mem_append_right _ (h))
theorem gf_X9_happens_9 : GF wsX9_happens RX9 9 8 0 := ⟨RX9, TX9, 35, rfl, in_X9_happens_X9, by decide, List.mem_of_getElem? (i := 1) rfl⟩
theorem mm_X9_happens_6 : Cond.methodLink RX9 115 Lib.Math.min.name ∈ wsX9_happens := List.mem_of_getElem? (i := 6) rfl
theorem mm_X9_happens_7 : Cond.static Lib.Math.min.name ∈ wsX9_happens := List.mem_of_getElem? (i := 7) rfl
theorem mm_X9_happens_4 : Cond.initialized "java/lang/Math" ∈ wsX9_happens := List.mem_of_getElem? (i := 4) rfl
theorem mm_X9_happens_8 : Cond.code Lib.Math.min.name Lib.Math.min.code 2 (some .int) ∈ wsX9_happens := List.mem_of_getElem? (i := 8) rfl
theorem mm_X9_happens_2 : Cond.methodLink RX9 133 Lib.Math.max.name ∈ wsX9_happens := List.mem_of_getElem? (i := 2) rfl
theorem mm_X9_happens_3 : Cond.static Lib.Math.max.name ∈ wsX9_happens := List.mem_of_getElem? (i := 3) rfl
theorem mm_X9_happens_5 : Cond.code Lib.Math.max.name Lib.Math.max.code 2 (some .int) ∈ wsX9_happens := List.mem_of_getElem? (i := 5) rfl
set_option maxRecDepth 100000 in
set_option maxHeartbeats 4000000 in
theorem k_X9_happens {g : XC} (C : XOk g cX9_happens RX9 wsX9_happens rm_X9_happens 5) (q : Nat → Nat) (F : Nat → Int) (c_this_far : Nat → Int) (c_this_kept : Nat → Int) (p1 : Int) (p2 : Int) (K : ((Nat → Int) × (Nat → Int)) → Prop) (hK : ∀ (o0 : Nat → Int) (o1 : Nat → Int), K (o0, o1) → FinV g 0 0 (w_X9_happens (xG g) q F o0 o1)) (h : wp (f_X9_happens p1 p2 (F 0) c_this_far c_this_kept) K) : WW g 0 0 (w_X9_happens (xG g) q F c_this_far c_this_kept) 0 [(0, .ref (q 35)), (1, .int (jz p1)), (2, .int (jz p2))] [] := by
  unfold f_X9_happens at h
  refine r_iload_n C (pc := 0) dX9_happens_0 rfl 1 rfl ?_
  refine r_iconst C (pc := 1) dX9_happens_1 ?_
  refine r_icmp_ne C (pc := 2) 11 dX9_happens_2 rfl h (fun c2 h => ?_) (fun c2 h => ?_)
  · refine r_iconst C (pc := 11) dX9_happens_11 ?_
    refine r_istore_n C (pc := 12) dX9_happens_12 rfl (by decide) (L' := [(0, .ref (q 35)), (1, .int (jz p1)), (2, .int (jz p2)), (3, .int (jz 0))]) rfl ?_
    refine lq2_e (fun (v3_13 : Int) (this_far_13 : Nat → Int) => WW g 0 0 (w_X9_happens (xG g) q F this_far_13 c_this_kept) 13 [(0, .ref (q 35)), (1, .int (jz p1)), (2, .int (jz p2)), (3, .int (jz v3_13))] []) h (fun n13 hn13 v3_13 this_far_13 h => ?_)
    refine r_iload_n C (pc := 13) dX9_happens_13 rfl 3 rfl ?_
    refine r_aload_n C (pc := 14) dX9_happens_14 rfl 0 rfl ?_
    refine r_get C (pc := 15) dX9_happens_15 gf_X9_happens_9 0 rfl rfl ?_
    refine r_icmp_ge C (pc := 18) 102 dX9_happens_18 rfl h (fun c18 h => ?_) (fun c18 h => ?_)
    · exact r_vret C (pc := 102) dX9_happens_102 (hK this_far_13 c_this_kept (wp_s h))
    · refine r_iconst C (pc := 21) dX9_happens_21 ?_
      refine r_istore C (pc := 22) dX9_happens_22 (by decide) (L' := [(0, .ref (q 35)), (1, .int (jz p1)), (2, .int (jz p2)), (3, .int (jz v3_13)), (4, .int (jz 0))]) rfl ?_
      refine lq2_e (fun (v4_24 : Int) (this_far_24 : Nat → Int) => WW g 0 0 (w_X9_happens (xG g) q F this_far_24 c_this_kept) 24 [(0, .ref (q 35)), (1, .int (jz p1)), (2, .int (jz p2)), (3, .int (jz v3_13)), (4, .int (jz v4_24))] []) h (fun n24 hn24 v4_24 this_far_24 h => ?_)
      refine r_iload C (pc := 24) dX9_happens_24 4 rfl ?_
      refine r_iload_n C (pc := 26) dX9_happens_26 rfl 3 rfl ?_
      refine r_icmp_ge C (pc := 27) 96 dX9_happens_27 rfl h (fun c27 h => ?_) (fun c27 h => ?_)
      · refine r_iinc C (pc := 96) dX9_happens_96 3 rfl (by decide) (L' := [(0, .ref (q 35)), (1, .int (jz p1)), (2, .int (jz p2)), (3, .int (jz (v3_13 + 1))), (4, .int (jz v4_24))]) rfl ?_
        refine r_goto C (pc := 99) 13 dX9_happens_99 rfl ?_
        refine r_sub [0, 1, 2, 3] rfl ?_
        exact hn13 (v3_13 + 1) this_far_24 h
      · refine r_iload_n C (pc := 30) dX9_happens_30 rfl 1 rfl ?_
        refine r_iconst C (pc := 31) dX9_happens_31 ?_
        refine jn_e (fun (k90 : (Nat → Int) → Option ((Nat → Int) × (Nat → Int))) => ∀ (this_far_90 : Nat → Int), wp (k90 this_far_90) K → WW g 0 0 (w_X9_happens (xG g) q F this_far_90 c_this_kept) 90 [(0, .ref (q 35)), (1, .int (jz p1)), (2, .int (jz p2)), (3, .int (jz v3_13)), (4, .int (jz v4_24))] []) h (fun this_far_90 h => ?_) (fun k90 hk90 h => ?_)
        · refine r_iinc C (pc := 90) dX9_happens_90 4 rfl (by decide) (L' := [(0, .ref (q 35)), (1, .int (jz p1)), (2, .int (jz p2)), (3, .int (jz v3_13)), (4, .int (jz (v4_24 + 1)))]) rfl ?_
          refine r_goto C (pc := 93) 24 dX9_happens_93 rfl ?_
          exact hn24 (v4_24 + 1) this_far_90 h
        · refine r_icmp_ne C (pc := 32) 58 dX9_happens_32 rfl h (fun c32 h => ?_) (fun c32 h => ?_)
          · refine r_iload_n C (pc := 58) dX9_happens_58 rfl 3 rfl ?_
            refine r_iload_n C (pc := 59) dX9_happens_59 rfl 2 rfl ?_
            refine jn_e (fun (k69 : Option ((Nat → Int) × (Nat → Int))) => wp (k69) K → WW g 0 0 (w_X9_happens (xG g) q F this_far_24 c_this_kept) 69 [(0, .ref (q 35)), (1, .int (jz p1)), (2, .int (jz p2)), (3, .int (jz v3_13)), (4, .int (jz v4_24))] []) h (fun h => ?_) (fun k69 hk69 h => ?_)
            · refine r_aload_n C (pc := 69) dX9_happens_69 rfl 0 rfl ?_
              refine r_iload_n C (pc := 70) dX9_happens_70 rfl 3 rfl ?_
              refine r_iload C (pc := 71) dX9_happens_71 4 rfl ?_
              refine r_bipush C (pc := 73) dX9_happens_73 rfl ?_
              refine r_aload_n C (pc := 75) dX9_happens_75 rfl 0 rfl ?_
              refine r_iload_n C (pc := 76) dX9_happens_76 rfl 3 rfl ?_
              refine r_iload C (pc := 77) dX9_happens_77 4 rfl ?_
              obtain ⟨r79, e79, h⟩ := wp_b1 h
              refine b_cVi C (pc := 79) dX9_happens_79 (c_X9_d (xl g) (xG g) q F this_far_24 v3_13 v4_24 r79 e79) rfl gX9_happens_X9_d ⟨rfl, rfl⟩ 2 hd_X9_d ⟨Nat.le_of_ble_eq_true rfl, Nat.le_of_ble_eq_true rfl⟩ rfl 0 rfl rfl rfl [0, 1] rfl (srt_nd 0 rfl) (ws' := w_X9_happens (xG g) q F this_far_24 c_this_kept) (Put.m rfl rfl rfl) rfl (rest := [.int (jz 40), .int (jz v4_24), .int (jz v3_13), .ref (q 35)]) rfl (Nat.le_of_ble_eq_true rfl) ⟨Nat.zero_le _, Nat.zero_le _⟩ ?_
              refine r_iconst C (pc := 82) dX9_happens_82 ?_
              refine r_iadd C (pc := 83) dX9_happens_83 ?_
              refine r_mmin C (pc := 84) dX9_happens_84 mm_X9_happens_6 mm_X9_happens_7 mm_X9_happens_4 mm_X9_happens_8 (Nat.le_of_ble_eq_true rfl) (Nat.le_of_ble_eq_true rfl) ⟨Nat.zero_le _, Nat.zero_le _⟩ ?_
              obtain ⟨this_far_87, e87, h⟩ := wp_b1 h
              refine b_cVv C (pc := 87) dX9_happens_87 (c_X9_lays (xl g) (xG g) q F this_far_24 v3_13 v4_24 (minI 40 (r79 + 1)) this_far_87 e87) rfl gX9_happens_X9_lays ⟨rfl, rfl⟩ 3 hd_X9_lays ⟨Nat.le_of_ble_eq_true rfl, Nat.le_of_ble_eq_true rfl⟩ rfl 0 rfl rfl rfl [0, 1] rfl (srt_nd 0 rfl) (ws' := w_X9_happens (xG g) q F this_far_87 c_this_kept) (Put.m rfl rfl rfl) rfl (rest := []) rfl (Nat.le_of_ble_eq_true rfl) ⟨Nat.zero_le _, Nat.zero_le _⟩ ?_
              exact hk90 this_far_87 h
            · refine r_icmp_eq C (pc := 60) 69 dX9_happens_60 rfl h (fun c60 h => ?_) (fun c60 h => ?_)
              · exact hk69 h
              · refine r_iload C (pc := 63) dX9_happens_63 4 rfl ?_
                refine r_iload_n C (pc := 65) dX9_happens_65 rfl 2 rfl ?_
                refine r_icmp_ne C (pc := 66) 90 dX9_happens_66 rfl h (fun c66 h => ?_) (fun c66 h => ?_)
                · exact hk90 this_far_24 h
                · exact hk69 h
          · refine r_aload_n C (pc := 35) dX9_happens_35 rfl 0 rfl ?_
            refine r_iload_n C (pc := 36) dX9_happens_36 rfl 3 rfl ?_
            refine r_iload C (pc := 37) dX9_happens_37 4 rfl ?_
            refine r_iconst C (pc := 39) dX9_happens_39 ?_
            refine r_aload_n C (pc := 40) dX9_happens_40 rfl 0 rfl ?_
            refine r_iload_n C (pc := 41) dX9_happens_41 rfl 3 rfl ?_
            refine r_iload C (pc := 42) dX9_happens_42 4 rfl ?_
            obtain ⟨r44, e44, h⟩ := wp_b1 h
            refine b_cVi C (pc := 44) dX9_happens_44 (c_X9_d (xl g) (xG g) q F this_far_24 v3_13 v4_24 r44 e44) rfl gX9_happens_X9_d ⟨rfl, rfl⟩ 2 hd_X9_d ⟨Nat.le_of_ble_eq_true rfl, Nat.le_of_ble_eq_true rfl⟩ rfl 0 rfl rfl rfl [0, 1] rfl (srt_nd 0 rfl) (ws' := w_X9_happens (xG g) q F this_far_24 c_this_kept) (Put.m rfl rfl rfl) rfl (rest := [.int (jz 0), .int (jz v4_24), .int (jz v3_13), .ref (q 35)]) rfl (Nat.le_of_ble_eq_true rfl) ⟨Nat.zero_le _, Nat.zero_le _⟩ ?_
            refine r_iload_n C (pc := 47) dX9_happens_47 rfl 2 rfl ?_
            refine r_isub C (pc := 48) dX9_happens_48 ?_
            refine r_mmax C (pc := 49) dX9_happens_49 mm_X9_happens_2 mm_X9_happens_3 mm_X9_happens_4 mm_X9_happens_5 (Nat.le_of_ble_eq_true rfl) (Nat.le_of_ble_eq_true rfl) ⟨Nat.zero_le _, Nat.zero_le _⟩ ?_
            obtain ⟨this_far_52, e52, h⟩ := wp_b1 h
            refine b_cVv C (pc := 52) dX9_happens_52 (c_X9_lays (xl g) (xG g) q F this_far_24 v3_13 v4_24 (maxI 0 (r44 - p2)) this_far_52 e52) rfl gX9_happens_X9_lays ⟨rfl, rfl⟩ 3 hd_X9_lays ⟨Nat.le_of_ble_eq_true rfl, Nat.le_of_ble_eq_true rfl⟩ rfl 0 rfl rfl rfl [0, 1] rfl (srt_nd 0 rfl) (ws' := w_X9_happens (xG g) q F this_far_52 c_this_kept) (Put.m rfl rfl rfl) rfl (rest := []) rfl (Nat.le_of_ble_eq_true rfl) ⟨Nat.zero_le _, Nat.zero_le _⟩ ?_
            refine r_goto C (pc := 55) 90 dX9_happens_55 rfl ?_
            exact hk90 this_far_52 h
  · refine r_aload_n C (pc := 5) dX9_happens_5 rfl 0 rfl ?_
    obtain ⟨r6, this_far_6, this_kept_6, e6, h⟩ := wp_b3 h
    refine b_cVi C (pc := 6) dX9_happens_6 (c_X9_shortens (xl g) (xG g) q F c_this_far c_this_kept r6 this_far_6 this_kept_6 e6) rfl gX9_happens_X9_shortens ⟨rfl, rfl⟩ 0 hd_X9_shortens ⟨Nat.le_of_ble_eq_true rfl, Nat.le_of_ble_eq_true rfl⟩ rfl 0 rfl rfl rfl [0, 1, 2] rfl (srt_nd 0 rfl) (ws' := w_X9_happens (xG g) q F this_far_6 this_kept_6) (Put.m rfl rfl rfl) rfl (rest := []) rfl (Nat.le_of_ble_eq_true rfl) ⟨Nat.zero_le _, Nat.zero_le _⟩ ?_
    refine r_istore_n C (pc := 9) dX9_happens_9 rfl (by decide) (L' := [(0, .ref (q 35)), (1, .int (jz p1)), (2, .int (jz p2)), (3, .int (jz r6))]) rfl ?_
    exact r_vret C (pc := 10) dX9_happens_10 (hK this_far_6 this_kept_6 (wp_s h))
theorem c_X9_happens (l : Launch) (G : gG) (q : Nat → Nat) (F : Nat → Int) (c_this_far : Nat → Int) (c_this_kept : Nat → Int) (p1 : Int) (p2 : Int) (o0 : Nat → Int) (o1 : Nat → Int) (hf : f_X9_happens p1 p2 (F 0) c_this_far c_this_kept = some (o0, o1)) : CTv l yX9_happens wsX9_happens rm_X9_happens G (w_X9_happens G q F c_this_far c_this_kept) [.ref (q 35), .int (jz p1), .int (jz p2)] (w_X9_happens G q F o0 o1) := CTv_of (by decide) rfl rfl (Nat.le_of_ble_eq_true rfl) (fun g C hG hl hF => by
    subst hG
    subst hl
    exact k_X9_happens C q F c_this_far c_this_kept p1 p2 (fun x => x = (o0, o1)) (fun o0' o1' e => by cases e; exact hF) ⟨_, hf, rfl⟩)

-- TightHullsModel.after(I)I
def f_X9_after (p1 : Int) (m_points : Int) (m_events : Int) (c_this_far : Nat → Int) (c_this_eventWhat : Nat → Int) (c_this_eventBy : Nat → Int) (c_this_kept : Nat → Int) (c_this_aside : Nat → Int) : Option (Int × (Nat → Int) × (Nat → Int) × (Nat → Int)) := bd1 (f_X9_in p1 0 2) (fun r3 => if eqI r3 0 = true then (some ((-1), c_this_far, c_this_kept, c_this_aside)) else (bd1 (f_X9_laysAside c_this_far c_this_aside) (fun this_aside_12 => lq3 (fun (n17 : Int → (Nat → Int) → (Nat → Int) → Option (Int × (Nat → Int) × (Nat → Int) × (Nat → Int))) (v2_17 : Int) (this_far_17 : Nat → Int) (this_kept_17 : Nat → Int) => if ltI v2_17 m_events = true then (grd (iin v2_17 8) (grd (iin v2_17 8) (bd2 (f_X9_happens (c_this_eventWhat (ix v2_17)) (c_this_eventBy (ix v2_17)) m_points this_far_17 this_kept_17) (fun this_far_38 this_kept_38 => n17 (v2_17 + 1) this_far_38 this_kept_38)))) else (jn (fun (s0_90 : Int) => bd1 (f_X9_laysBack this_far_17 this_aside_12) (fun this_far_92 => some (s0_90, this_far_92, this_kept_17, this_aside_12))) (fun (k90 : Int → Option (Int × (Nat → Int) × (Nat → Int) × (Nat → Int))) => if eqI p1 0 = true then (bd1 (f_X9_barred m_points this_far_17) (fun r52 => if ltI r52 0 = true then (k90 1) else (k90 0))) else (if eqI p1 1 = true then (bd1 (f_X9_counting m_points this_far_17) (fun r72 => k90 r72)) else (bd1 (f_X9_isTree m_points this_far_17) (fun r79 => if eqI r79 0 = true then (k90 0) else (k90 1))))))) 300 0 c_this_far c_this_kept)))
abbrev rm_X9_after : Room := { frames := 3, cells := 0, slots := 0, locals := 112 }
abbrev w_X9_after (G : gG) (q : Nat → Nat) (F : Nat → Int) (c_this_far : Nat → Int) (c_this_eventWhat : Nat → Int) (c_this_eventBy : Nat → Int) (c_this_kept : Nat → Int) (c_this_aside : Nat → Int) : va_W := [((q 35), oX9 F q), ((q 1), aI G 25 c_this_far), ((q 8), aI G 8 c_this_eventWhat), ((q 9), aI G 8 c_this_eventBy), ((q 20), aI G 25 c_this_kept), ((q 21), aI G 25 c_this_aside)]
theorem hd_X9_after : yX9_after.cls = RX9 ∧ yX9_after.cls ≠ "java/lang/invoke/MethodHandle" ∧ yX9_after.cls ≠ "java/lang/invoke/VarHandle" ∧ (parseMethodDescriptor yX9_after.desc).map (fun d => d.parameters.length) = some 1 := by decide +kernel
theorem in_X9_after_X9 : ∀ w ∈ u_ws RX9 TX9 35, w ∈ wsX9_after := fun w h => List.mem_cons_of_mem _ (List.mem_append_right _ (h))
theorem gf_X9_after_251 : GF wsX9_after RX9 251 8 7 := ⟨RX9, TX9, 35, rfl, in_X9_after_X9, by decide, List.mem_of_getElem? (i := 1) rfl⟩
theorem gf_X9_after_31 : GF wsX9_after RX9 31 8 8 := ⟨RX9, TX9, 35, rfl, in_X9_after_X9, by decide, List.mem_of_getElem? (i := 2) rfl⟩
theorem gf_X9_after_34 : GF wsX9_after RX9 34 8 9 := ⟨RX9, TX9, 35, rfl, in_X9_after_X9, by decide, List.mem_of_getElem? (i := 3) rfl⟩
set_option maxRecDepth 100000 in
set_option maxHeartbeats 4000000 in
theorem k_X9_after {g : XC} (C : XOk g cX9_after RX9 wsX9_after rm_X9_after 3) (q : Nat → Nat) (F : Nat → Int) (c_this_far : Nat → Int) (c_this_eventWhat : Nat → Int) (c_this_eventBy : Nat → Int) (c_this_kept : Nat → Int) (c_this_aside : Nat → Int) (p1 : Int) (K : (Int × (Nat → Int) × (Nat → Int) × (Nat → Int)) → Prop) (hK : ∀ (r : Int) (o0 : Nat → Int) (o1 : Nat → Int) (o2 : Nat → Int), K (r, o0, o1, o2) → (narrow .int (.int (jz r)) = .int (jz r) → FinI g 0 0 (w_X9_after (xG g) q F o0 c_this_eventWhat c_this_eventBy o1 o2) (jz r))) (h : wp (f_X9_after p1 (F 0) (F 7) c_this_far c_this_eventWhat c_this_eventBy c_this_kept c_this_aside) K) : WW g 0 0 (w_X9_after (xG g) q F c_this_far c_this_eventWhat c_this_eventBy c_this_kept c_this_aside) 0 [(0, .ref (q 35)), (1, .int (jz p1))] [] := by
  unfold f_X9_after at h
  refine r_iload_n C (pc := 0) dX9_after_0 rfl 1 rfl ?_
  refine r_iconst C (pc := 1) dX9_after_1 ?_
  refine r_iconst C (pc := 2) dX9_after_2 ?_
  obtain ⟨r3, e3, h⟩ := wp_b1 h
  refine b_cSi C (pc := 3) dX9_after_3 (c_X9_in (xl g) (xG g) p1 0 2 r3 e3) rfl gX9_after_X9_in ⟨rfl, rfl⟩ 3 hd_X9_in ⟨Nat.le_of_ble_eq_true rfl, Nat.le_of_ble_eq_true rfl⟩ rfl [] rfl (srt_nd 0 rfl) (ws' := w_X9_after (xG g) q F c_this_far c_this_eventWhat c_this_eventBy c_this_kept c_this_aside) (Put.m rfl rfl rfl) rfl (rest := []) rfl (Nat.le_of_ble_eq_true rfl) ⟨Nat.zero_le _, Nat.zero_le _⟩ ?_
  refine r_if_ne C (pc := 6) 11 dX9_after_6 rfl h (fun c6 h => ?_) (fun c6 h => ?_)
  · refine r_aload_n C (pc := 11) dX9_after_11 rfl 0 rfl ?_
    obtain ⟨this_aside_12, e12, h⟩ := wp_b1 h
    refine b_cVv C (pc := 12) dX9_after_12 (c_X9_laysAside (xl g) (xG g) q F c_this_far c_this_aside this_aside_12 e12) rfl gX9_after_X9_laysAside ⟨rfl, rfl⟩ 0 hd_X9_laysAside ⟨Nat.le_of_ble_eq_true rfl, Nat.le_of_ble_eq_true rfl⟩ rfl 0 rfl rfl rfl [0, 1, 5] rfl (srt_nd 0 rfl) (ws' := w_X9_after (xG g) q F c_this_far c_this_eventWhat c_this_eventBy c_this_kept this_aside_12) (Put.m rfl rfl rfl) rfl (rest := []) rfl (Nat.le_of_ble_eq_true rfl) ⟨Nat.zero_le _, Nat.zero_le _⟩ ?_
    refine r_iconst C (pc := 15) dX9_after_15 ?_
    refine r_istore_n C (pc := 16) dX9_after_16 rfl (by decide) (L' := [(0, .ref (q 35)), (1, .int (jz p1)), (2, .int (jz 0))]) rfl ?_
    refine lq3_e (fun (v2_17 : Int) (this_far_17 : Nat → Int) (this_kept_17 : Nat → Int) => WW g 0 0 (w_X9_after (xG g) q F this_far_17 c_this_eventWhat c_this_eventBy this_kept_17 this_aside_12) 17 [(0, .ref (q 35)), (1, .int (jz p1)), (2, .int (jz v2_17))] []) h (fun n17 hn17 v2_17 this_far_17 this_kept_17 h => ?_)
    refine r_iload_n C (pc := 17) dX9_after_17 rfl 2 rfl ?_
    refine r_aload_n C (pc := 18) dX9_after_18 rfl 0 rfl ?_
    refine r_get C (pc := 19) dX9_after_19 gf_X9_after_251 0 rfl rfl ?_
    refine r_icmp_ge C (pc := 22) 47 dX9_after_22 rfl h (fun c22 h => ?_) (fun c22 h => ?_)
    · refine r_iload_n C (pc := 47) dX9_after_47 rfl 1 rfl ?_
      refine jn_e (fun (k90 : Int → Option (Int × (Nat → Int) × (Nat → Int) × (Nat → Int))) => ∀ (s0_90 : Int), wp (k90 s0_90) K → WW g 0 0 (w_X9_after (xG g) q F this_far_17 c_this_eventWhat c_this_eventBy this_kept_17 this_aside_12) 90 [(0, .ref (q 35))] [.int (jz s0_90)]) h (fun s0_90 h => ?_) (fun k90 hk90 h => ?_)
      · refine r_istore_n C (pc := 90) dX9_after_90 rfl (by decide) (L' := [(0, .ref (q 35)), (2, .int (jz s0_90))]) rfl ?_
        refine r_aload_n C (pc := 91) dX9_after_91 rfl 0 rfl ?_
        obtain ⟨this_far_92, e92, h⟩ := wp_b1 h
        refine b_cVv C (pc := 92) dX9_after_92 (c_X9_laysBack (xl g) (xG g) q F this_far_17 this_aside_12 this_far_92 e92) rfl gX9_after_X9_laysBack ⟨rfl, rfl⟩ 0 hd_X9_laysBack ⟨Nat.le_of_ble_eq_true rfl, Nat.le_of_ble_eq_true rfl⟩ rfl 0 rfl rfl rfl [0, 1, 5] rfl (srt_nd 0 rfl) (ws' := w_X9_after (xG g) q F this_far_92 c_this_eventWhat c_this_eventBy this_kept_17 this_aside_12) (Put.m rfl rfl rfl) rfl (rest := []) rfl (Nat.le_of_ble_eq_true rfl) ⟨Nat.zero_le _, Nat.zero_le _⟩ ?_
        refine r_iload_n C (pc := 95) dX9_after_95 rfl 1 rfl ?_
        exact r_iret C (pc := 96) dX9_after_96 (hK s0_90 this_far_92 this_kept_17 this_aside_12 (wp_s h) rfl)
      · refine r_if_ne C (pc := 48) 66 dX9_after_48 rfl h (fun c48 h => ?_) (fun c48 h => ?_)
        · refine r_iload_n C (pc := 66) dX9_after_66 rfl 1 rfl ?_
          refine r_iconst C (pc := 67) dX9_after_67 ?_
          refine r_icmp_ne C (pc := 68) 78 dX9_after_68 rfl h (fun c68 h => ?_) (fun c68 h => ?_)
          · refine r_aload_n C (pc := 78) dX9_after_78 rfl 0 rfl ?_
            obtain ⟨r79, e79, h⟩ := wp_b1 h
            refine b_cVi C (pc := 79) dX9_after_79 (c_X9_isTree (xl g) (xG g) q F this_far_17 r79 e79) rfl gX9_after_X9_isTree ⟨rfl, rfl⟩ 0 hd_X9_isTree ⟨Nat.le_of_ble_eq_true rfl, Nat.le_of_ble_eq_true rfl⟩ rfl 0 rfl rfl rfl [0, 1] rfl (srt_nd 0 rfl) (ws' := w_X9_after (xG g) q F this_far_17 c_this_eventWhat c_this_eventBy this_kept_17 this_aside_12) (Put.m rfl rfl rfl) rfl (rest := []) rfl (Nat.le_of_ble_eq_true rfl) ⟨Nat.zero_le _, Nat.zero_le _⟩ ?_
            refine r_if_eq C (pc := 82) 89 dX9_after_82 rfl h (fun c82 h => ?_) (fun c82 h => ?_)
            · refine r_iconst C (pc := 89) dX9_after_89 ?_
              refine r_sub [0] rfl ?_
              exact hk90 0 h
            · refine r_iconst C (pc := 85) dX9_after_85 ?_
              refine r_goto C (pc := 86) 90 dX9_after_86 rfl ?_
              refine r_sub [0] rfl ?_
              exact hk90 1 h
          · refine r_aload_n C (pc := 71) dX9_after_71 rfl 0 rfl ?_
            obtain ⟨r72, e72, h⟩ := wp_b1 h
            refine b_cVi C (pc := 72) dX9_after_72 (c_X9_counting (xl g) (xG g) q F this_far_17 r72 e72) rfl gX9_after_X9_counting ⟨rfl, rfl⟩ 0 hd_X9_counting ⟨Nat.le_of_ble_eq_true rfl, Nat.le_of_ble_eq_true rfl⟩ rfl 0 rfl rfl rfl [0, 1] rfl (srt_nd 0 rfl) (ws' := w_X9_after (xG g) q F this_far_17 c_this_eventWhat c_this_eventBy this_kept_17 this_aside_12) (Put.m rfl rfl rfl) rfl (rest := []) rfl (Nat.le_of_ble_eq_true rfl) ⟨Nat.zero_le _, Nat.zero_le _⟩ ?_
            refine r_goto C (pc := 75) 90 dX9_after_75 rfl ?_
            refine r_sub [0] rfl ?_
            exact hk90 r72 h
        · refine r_aload_n C (pc := 51) dX9_after_51 rfl 0 rfl ?_
          obtain ⟨r52, e52, h⟩ := wp_b1 h
          refine b_cVi C (pc := 52) dX9_after_52 (c_X9_barred (xl g) (xG g) q F this_far_17 r52 e52) rfl gX9_after_X9_barred ⟨rfl, rfl⟩ 0 hd_X9_barred ⟨Nat.le_of_ble_eq_true rfl, Nat.le_of_ble_eq_true rfl⟩ rfl 0 rfl rfl rfl [0, 1] rfl (srt_nd 0 rfl) (ws' := w_X9_after (xG g) q F this_far_17 c_this_eventWhat c_this_eventBy this_kept_17 this_aside_12) (Put.m rfl rfl rfl) rfl (rest := []) rfl (Nat.le_of_ble_eq_true rfl) ⟨Nat.zero_le _, Nat.zero_le _⟩ ?_
          refine r_if_ge C (pc := 55) 62 dX9_after_55 rfl h (fun c55 h => ?_) (fun c55 h => ?_)
          · refine r_iconst C (pc := 62) dX9_after_62 ?_
            refine r_goto C (pc := 63) 90 dX9_after_63 rfl ?_
            refine r_sub [0] rfl ?_
            exact hk90 0 h
          · refine r_iconst C (pc := 58) dX9_after_58 ?_
            refine r_goto C (pc := 59) 90 dX9_after_59 rfl ?_
            refine r_sub [0] rfl ?_
            exact hk90 1 h
    · refine r_aload_n C (pc := 25) dX9_after_25 rfl 0 rfl ?_
      refine r_aload_n C (pc := 26) dX9_after_26 rfl 0 rfl ?_
      refine r_get C (pc := 27) dX9_after_27 gf_X9_after_31 0 rfl rfl ?_
      refine r_iload_n C (pc := 30) dX9_after_30 rfl 2 rfl ?_
      refine r_iald C (pc := 31) dX9_after_31 h 2 rfl (fun h => ?_)
      refine r_aload_n C (pc := 32) dX9_after_32 rfl 0 rfl ?_
      refine r_get C (pc := 33) dX9_after_33 gf_X9_after_34 0 rfl rfl ?_
      refine r_iload_n C (pc := 36) dX9_after_36 rfl 2 rfl ?_
      refine r_iald C (pc := 37) dX9_after_37 h 3 rfl (fun h => ?_)
      obtain ⟨this_far_38, this_kept_38, e38, h⟩ := wp_b2 h
      refine b_cVv C (pc := 38) dX9_after_38 (c_X9_happens (xl g) (xG g) q F this_far_17 this_kept_17 (c_this_eventWhat (ix v2_17)) (c_this_eventBy (ix v2_17)) this_far_38 this_kept_38 e38) rfl gX9_after_X9_happens ⟨rfl, rfl⟩ 2 hd_X9_happens ⟨Nat.le_of_ble_eq_true rfl, Nat.le_of_ble_eq_true rfl⟩ rfl 0 rfl rfl rfl [0, 1, 4] rfl (srt_nd 0 rfl) (ws' := w_X9_after (xG g) q F this_far_38 c_this_eventWhat c_this_eventBy this_kept_38 this_aside_12) (Put.m rfl rfl rfl) rfl (rest := []) rfl (Nat.le_of_ble_eq_true rfl) ⟨Nat.zero_le _, Nat.zero_le _⟩ ?_
      refine r_iinc C (pc := 41) dX9_after_41 2 rfl (by decide) (L' := [(0, .ref (q 35)), (1, .int (jz p1)), (2, .int (jz (v2_17 + 1)))]) rfl ?_
      refine r_goto C (pc := 44) 17 dX9_after_44 rfl ?_
      exact hn17 (v2_17 + 1) this_far_38 this_kept_38 h
  · refine r_iconst C (pc := 9) dX9_after_9 ?_
    exact r_iret C (pc := 10) dX9_after_10 (hK (-1) c_this_far c_this_kept c_this_aside (wp_s h) rfl)
theorem c_X9_after (l : Launch) (G : gG) (q : Nat → Nat) (F : Nat → Int) (c_this_far : Nat → Int) (c_this_eventWhat : Nat → Int) (c_this_eventBy : Nat → Int) (c_this_kept : Nat → Int) (c_this_aside : Nat → Int) (p1 : Int) (r : Int) (o0 : Nat → Int) (o1 : Nat → Int) (o2 : Nat → Int) (hf : f_X9_after p1 (F 0) (F 7) c_this_far c_this_eventWhat c_this_eventBy c_this_kept c_this_aside = some (r, o0, o1, o2)) : CTi l yX9_after wsX9_after rm_X9_after G (w_X9_after G q F c_this_far c_this_eventWhat c_this_eventBy c_this_kept c_this_aside) [.ref (q 35), .int (jz p1)] (jz r) (w_X9_after G q F o0 c_this_eventWhat c_this_eventBy o1 o2) := CTi_of (by decide) rfl rfl (Nat.le_of_ble_eq_true rfl) (fun g C hG hl hF => by
    subst hG
    subst hl
    exact k_X9_after C q F c_this_far c_this_eventWhat c_this_eventBy c_this_kept c_this_aside p1 (fun x => x = (r, o0, o1, o2)) (fun r' o0' o1' o2' e => by cases e; exact hF) ⟨_, hf, rfl⟩)

-- TightHullsModel.book(III)I
def f_X9_book (p1 : Int) (p2 : Int) (p3 : Int) (m_points : Int) (m_books : Int) (c_this_bookOne : Nat → Int) (c_this_bookOther : Nat → Int) (c_this_bookFar : Nat → Int) : Option (Int × Int × (Nat → Int) × (Nat → Int) × (Nat → Int)) := if eqI p1 (-1) = true then (some (0, 0, c_this_bookOne, c_this_bookOther, c_this_bookFar)) else (bd1 (f_X9_areTwo p1 p2 m_points) (fun r15 => if eqI r15 0 = true then (some ((-1), m_books, c_this_bookOne, c_this_bookOther, c_this_bookFar)) else (bd1 (f_X9_in p3 0 40) (fun r27 => if eqI r27 0 = true then (some ((-2), m_books, c_this_bookOne, c_this_bookOther, c_this_bookFar)) else (if eqI m_books 8 = true then (some ((-4), m_books, c_this_bookOne, c_this_bookOther, c_this_bookFar)) else (grd (iin m_books 8) (grd (iin m_books 8) (grd (iin m_books 8) (lv ((m_books + 1)) (fun x85 => some (x85, x85, (up c_this_bookOne (ix m_books) p1), (up c_this_bookOther (ix m_books) p2), (up c_this_bookFar (ix m_books) p3))))))))))))
abbrev rm_X9_book : Room := { frames := 3, cells := 0, slots := 0, locals := 65 }
abbrev w_X9_book (G : gG) (q : Nat → Nat) (F : Nat → Int) (c_this_bookOne : Nat → Int) (c_this_bookOther : Nat → Int) (c_this_bookFar : Nat → Int) : va_W := [((q 35), oX9 F q), ((q 11), aI G 8 c_this_bookOne), ((q 12), aI G 8 c_this_bookOther), ((q 13), aI G 8 c_this_bookFar)]
theorem hd_X9_book : yX9_book.cls = RX9 ∧ yX9_book.cls ≠ "java/lang/invoke/MethodHandle" ∧ yX9_book.cls ≠ "java/lang/invoke/VarHandle" ∧ (parseMethodDescriptor yX9_book.desc).map (fun d => d.parameters.length) = some 3 := by decide +kernel
theorem in_X9_book_X9 : ∀ w ∈ u_ws RX9 TX9 35, w ∈ wsX9_book := fun w h => List.mem_cons_of_mem _ (List.mem_append_right _ (h))
theorem gf_X9_book_258 : GF wsX9_book RX9 258 8 10 := ⟨RX9, TX9, 35, rfl, in_X9_book_X9, by decide, List.mem_of_getElem? (i := 1) rfl⟩
theorem gf_X9_book_37 : GF wsX9_book RX9 37 8 11 := ⟨RX9, TX9, 35, rfl, in_X9_book_X9, by decide, List.mem_of_getElem? (i := 2) rfl⟩
theorem gf_X9_book_40 : GF wsX9_book RX9 40 8 12 := ⟨RX9, TX9, 35, rfl, in_X9_book_X9, by decide, List.mem_of_getElem? (i := 3) rfl⟩
theorem gf_X9_book_43 : GF wsX9_book RX9 43 8 13 := ⟨RX9, TX9, 35, rfl, in_X9_book_X9, by decide, List.mem_of_getElem? (i := 4) rfl⟩
theorem pf_X9_book_258 : PF wsX9_book RX9 258 8 10 .int false := ⟨RX9, TX9, 35, tyX9, rfl, in_X9_book_X9, tyX9_ok, nmX9, by decide, List.mem_of_getElem? (i := 1) rfl, rfl, rfl, rfl⟩
set_option maxRecDepth 100000 in
set_option maxHeartbeats 4000000 in
theorem k_X9_book {g : XC} (C : XOk g cX9_book RX9 wsX9_book rm_X9_book 4) (q : Nat → Nat) (F : Nat → Int) (c_this_bookOne : Nat → Int) (c_this_bookOther : Nat → Int) (c_this_bookFar : Nat → Int) (p1 : Int) (p2 : Int) (p3 : Int) (K : (Int × Int × (Nat → Int) × (Nat → Int) × (Nat → Int)) → Prop) (hK : ∀ (r : Int) (o0 : Int) (o1 : Nat → Int) (o2 : Nat → Int) (o3 : Nat → Int), K (r, o0, o1, o2, o3) → (narrow .int (.int (jz r)) = .int (jz r) → FinI g 0 0 (w_X9_book (xG g) q (up F 10 o0) o1 o2 o3) (jz r))) (h : wp (f_X9_book p1 p2 p3 (F 0) (F 10) c_this_bookOne c_this_bookOther c_this_bookFar) K) : WW g 0 0 (w_X9_book (xG g) q F c_this_bookOne c_this_bookOther c_this_bookFar) 0 [(0, .ref (q 35)), (1, .int (jz p1)), (2, .int (jz p2)), (3, .int (jz p3))] [] := by
  unfold f_X9_book at h
  refine r_iload_n C (pc := 0) dX9_book_0 rfl 1 rfl ?_
  refine r_iconst C (pc := 1) dX9_book_1 ?_
  refine r_icmp_ne C (pc := 2) 12 dX9_book_2 rfl h (fun c2 h => ?_) (fun c2 h => ?_)
  · refine r_aload_n C (pc := 12) dX9_book_12 rfl 0 rfl ?_
    refine r_iload_n C (pc := 13) dX9_book_13 rfl 1 rfl ?_
    refine r_iload_n C (pc := 14) dX9_book_14 rfl 2 rfl ?_
    obtain ⟨r15, e15, h⟩ := wp_b1 h
    refine b_cVi C (pc := 15) dX9_book_15 (c_X9_areTwo (xl g) (xG g) q F p1 p2 r15 e15) rfl gX9_book_X9_areTwo ⟨rfl, rfl⟩ 2 hd_X9_areTwo ⟨Nat.le_of_ble_eq_true rfl, Nat.le_of_ble_eq_true rfl⟩ rfl 0 rfl rfl rfl [0] rfl (srt_nd 0 rfl) (ws' := w_X9_book (xG g) q F c_this_bookOne c_this_bookOther c_this_bookFar) (Put.m rfl rfl rfl) rfl (rest := []) rfl (Nat.le_of_ble_eq_true rfl) ⟨Nat.zero_le _, Nat.zero_le _⟩ ?_
    refine r_if_ne C (pc := 18) 23 dX9_book_18 rfl h (fun c18 h => ?_) (fun c18 h => ?_)
    · refine r_iload_n C (pc := 23) dX9_book_23 rfl 3 rfl ?_
      refine r_iconst C (pc := 24) dX9_book_24 ?_
      refine r_bipush C (pc := 25) dX9_book_25 rfl ?_
      obtain ⟨r27, e27, h⟩ := wp_b1 h
      refine b_cSi C (pc := 27) dX9_book_27 (c_X9_in (xl g) (xG g) p3 0 40 r27 e27) rfl gX9_book_X9_in ⟨rfl, rfl⟩ 3 hd_X9_in ⟨Nat.le_of_ble_eq_true rfl, Nat.le_of_ble_eq_true rfl⟩ rfl [] rfl (srt_nd 0 rfl) (ws' := w_X9_book (xG g) q F c_this_bookOne c_this_bookOther c_this_bookFar) (Put.m rfl rfl rfl) rfl (rest := []) rfl (Nat.le_of_ble_eq_true rfl) ⟨Nat.zero_le _, Nat.zero_le _⟩ ?_
      refine r_if_ne C (pc := 30) 36 dX9_book_30 rfl h (fun c30 h => ?_) (fun c30 h => ?_)
      · refine r_aload_n C (pc := 36) dX9_book_36 rfl 0 rfl ?_
        refine r_get C (pc := 37) dX9_book_37 gf_X9_book_258 0 rfl rfl ?_
        refine r_bipush C (pc := 40) dX9_book_40 rfl ?_
        refine r_icmp_ne C (pc := 42) 48 dX9_book_42 rfl h (fun c42 h => ?_) (fun c42 h => ?_)
        · refine r_aload_n C (pc := 48) dX9_book_48 rfl 0 rfl ?_
          refine r_get C (pc := 49) dX9_book_49 gf_X9_book_37 0 rfl rfl ?_
          refine r_aload_n C (pc := 52) dX9_book_52 rfl 0 rfl ?_
          refine r_get C (pc := 53) dX9_book_53 gf_X9_book_258 0 rfl rfl ?_
          refine r_iload_n C (pc := 56) dX9_book_56 rfl 1 rfl ?_
          refine r_iast C (pc := 57) dX9_book_57 h 1 rfl (ws' := w_X9_book (xG g) q F (up c_this_bookOne (ix (F 10)) p1) c_this_bookOther c_this_bookFar) rfl (fun h => ?_)
          refine r_aload_n C (pc := 58) dX9_book_58 rfl 0 rfl ?_
          refine r_get C (pc := 59) dX9_book_59 gf_X9_book_40 0 rfl rfl ?_
          refine r_aload_n C (pc := 62) dX9_book_62 rfl 0 rfl ?_
          refine r_get C (pc := 63) dX9_book_63 gf_X9_book_258 0 rfl rfl ?_
          refine r_iload_n C (pc := 66) dX9_book_66 rfl 2 rfl ?_
          refine r_iast C (pc := 67) dX9_book_67 h 2 rfl (ws' := w_X9_book (xG g) q F (up c_this_bookOne (ix (F 10)) p1) (up c_this_bookOther (ix (F 10)) p2) c_this_bookFar) rfl (fun h => ?_)
          refine r_aload_n C (pc := 68) dX9_book_68 rfl 0 rfl ?_
          refine r_get C (pc := 69) dX9_book_69 gf_X9_book_43 0 rfl rfl ?_
          refine r_aload_n C (pc := 72) dX9_book_72 rfl 0 rfl ?_
          refine r_get C (pc := 73) dX9_book_73 gf_X9_book_258 0 rfl rfl ?_
          refine r_iload_n C (pc := 76) dX9_book_76 rfl 3 rfl ?_
          refine r_iast C (pc := 77) dX9_book_77 h 3 rfl (ws' := w_X9_book (xG g) q F (up c_this_bookOne (ix (F 10)) p1) (up c_this_bookOther (ix (F 10)) p2) (up c_this_bookFar (ix (F 10)) p3)) rfl (fun h => ?_)
          refine r_aload_n C (pc := 78) dX9_book_78 rfl 0 rfl ?_
          refine r_dup C (pc := 79) dX9_book_79 rfl ?_
          refine r_get C (pc := 80) dX9_book_80 gf_X9_book_258 0 rfl rfl ?_
          refine r_iconst C (pc := 83) dX9_book_83 ?_
          refine r_iadd C (pc := 84) dX9_book_84 ?_
          refine r_let h (fun x85 h => ?_)
          refine r_puti C (pc := 85) dX9_book_85 pf_X9_book_258 0 rfl (Nat.le_of_ble_eq_true rfl) (ws' := w_X9_book (xG g) q (up F 10 x85) (up c_this_bookOne (ix (F 10)) p1) (up c_this_bookOther (ix (F 10)) p2) (up c_this_bookFar (ix (F 10)) p3)) rfl ?_
          refine r_aload_n C (pc := 88) dX9_book_88 rfl 0 rfl ?_
          refine r_get C (pc := 89) dX9_book_89 gf_X9_book_258 0 rfl rfl ?_
          exact r_iret C (pc := 92) dX9_book_92 (hK x85 x85 (up c_this_bookOne (ix (F 10)) p1) (up c_this_bookOther (ix (F 10)) p2) (up c_this_bookFar (ix (F 10)) p3) (wp_s h) rfl)
        · refine r_bipush C (pc := 45) dX9_book_45 rfl ?_
          exact r_iret C (pc := 47) dX9_book_47 (hK (-4) (F 10) c_this_bookOne c_this_bookOther c_this_bookFar (wp_s h) rfl)
      · refine r_bipush C (pc := 33) dX9_book_33 rfl ?_
        exact r_iret C (pc := 35) dX9_book_35 (hK (-2) (F 10) c_this_bookOne c_this_bookOther c_this_bookFar (wp_s h) rfl)
    · refine r_iconst C (pc := 21) dX9_book_21 ?_
      exact r_iret C (pc := 22) dX9_book_22 (hK (-1) (F 10) c_this_bookOne c_this_bookOther c_this_bookFar (wp_s h) rfl)
  · refine r_aload_n C (pc := 5) dX9_book_5 rfl 0 rfl ?_
    refine r_iconst C (pc := 6) dX9_book_6 ?_
    refine r_puti C (pc := 7) dX9_book_7 pf_X9_book_258 0 rfl (Nat.le_of_ble_eq_true rfl) (ws' := w_X9_book (xG g) q (up F 10 0) c_this_bookOne c_this_bookOther c_this_bookFar) rfl ?_
    refine r_iconst C (pc := 10) dX9_book_10 ?_
    exact r_iret C (pc := 11) dX9_book_11 (hK 0 0 c_this_bookOne c_this_bookOther c_this_bookFar (wp_s h) rfl)
theorem c_X9_book (l : Launch) (G : gG) (q : Nat → Nat) (F : Nat → Int) (c_this_bookOne : Nat → Int) (c_this_bookOther : Nat → Int) (c_this_bookFar : Nat → Int) (p1 : Int) (p2 : Int) (p3 : Int) (r : Int) (o0 : Int) (o1 : Nat → Int) (o2 : Nat → Int) (o3 : Nat → Int) (hf : f_X9_book p1 p2 p3 (F 0) (F 10) c_this_bookOne c_this_bookOther c_this_bookFar = some (r, o0, o1, o2, o3)) : CTi l yX9_book wsX9_book rm_X9_book G (w_X9_book G q F c_this_bookOne c_this_bookOther c_this_bookFar) [.ref (q 35), .int (jz p1), .int (jz p2), .int (jz p3)] (jz r) (w_X9_book G q (up F 10 o0) o1 o2 o3) := CTi_of (by decide) rfl rfl (Nat.le_of_ble_eq_true rfl) (fun g C hG hl hF => by
    subst hG
    subst hl
    exact k_X9_book C q F c_this_bookOne c_this_bookOther c_this_bookFar p1 p2 p3 (fun x => x = (r, o0, o1, o2, o3)) (fun r' o0' o1' o2' o3' e => by cases e; exact hF) ⟨_, hf, rfl⟩)

-- TightHullsModel.looked()I
def f_X9_looked (m_points : Int) (m_books : Int) (c_this_far : Nat → Int) (c_this_bookOne : Nat → Int) (c_this_bookOther : Nat → Int) (c_this_bookFar : Nat → Int) : Option Int := lq1 (fun (n2 : Int → Option Int) (v1_2 : Int) => if ltI v1_2 m_books = true then (grd (iin v1_2 8) (grd (iin v1_2 8) (bd1 (f_X9_areTwo (c_this_bookOne (ix v1_2)) (c_this_bookOther (ix v1_2)) m_points) (fun r23 => jn (some v1_2) (fun (k54 : Option Int) => if eqI r23 0 = true then k54 else (grd (iin v1_2 8) (grd (iin v1_2 8) (bd1 (f_X9_d (c_this_bookOne (ix v1_2)) (c_this_bookOther (ix v1_2)) c_this_far) (fun r42 => grd (iin v1_2 8) (if eqI r42 (c_this_bookFar (ix v1_2)) = true then (n2 (v1_2 + 1)) else k54)))))))))) else (some (-5))) 300 0
abbrev rm_X9_looked : Room := { frames := 3, cells := 0, slots := 0, locals := 65 }
abbrev w_X9_looked (G : gG) (q : Nat → Nat) (F : Nat → Int) (c_this_far : Nat → Int) (c_this_bookOne : Nat → Int) (c_this_bookOther : Nat → Int) (c_this_bookFar : Nat → Int) : va_W := [((q 35), oX9 F q), ((q 1), aI G 25 c_this_far), ((q 11), aI G 8 c_this_bookOne), ((q 12), aI G 8 c_this_bookOther), ((q 13), aI G 8 c_this_bookFar)]
theorem hd_X9_looked : yX9_looked.cls = RX9 ∧ yX9_looked.cls ≠ "java/lang/invoke/MethodHandle" ∧ yX9_looked.cls ≠ "java/lang/invoke/VarHandle" ∧ (parseMethodDescriptor yX9_looked.desc).map (fun d => d.parameters.length) = some 0 := by decide +kernel
theorem in_X9_looked_X9 : ∀ w ∈ u_ws RX9 TX9 35, w ∈ wsX9_looked := fun w h => List.mem_cons_of_mem _ (List.mem_append_right _ (h))
theorem gf_X9_looked_258 : GF wsX9_looked RX9 258 8 10 := ⟨RX9, TX9, 35, rfl, in_X9_looked_X9, by decide, List.mem_of_getElem? (i := 1) rfl⟩
theorem gf_X9_looked_37 : GF wsX9_looked RX9 37 8 11 := ⟨RX9, TX9, 35, rfl, in_X9_looked_X9, by decide, List.mem_of_getElem? (i := 2) rfl⟩
theorem gf_X9_looked_40 : GF wsX9_looked RX9 40 8 12 := ⟨RX9, TX9, 35, rfl, in_X9_looked_X9, by decide, List.mem_of_getElem? (i := 3) rfl⟩
theorem gf_X9_looked_43 : GF wsX9_looked RX9 43 8 13 := ⟨RX9, TX9, 35, rfl, in_X9_looked_X9, by decide, List.mem_of_getElem? (i := 4) rfl⟩
set_option maxRecDepth 100000 in
set_option maxHeartbeats 4000000 in
theorem k_X9_looked {g : XC} (C : XOk g cX9_looked RX9 wsX9_looked rm_X9_looked 2) (q : Nat → Nat) (F : Nat → Int) (c_this_far : Nat → Int) (c_this_bookOne : Nat → Int) (c_this_bookOther : Nat → Int) (c_this_bookFar : Nat → Int)  (K : Int → Prop) (hK : ∀ (r : Int), K r → (narrow .int (.int (jz r)) = .int (jz r) → FinI g 0 0 (w_X9_looked (xG g) q F c_this_far c_this_bookOne c_this_bookOther c_this_bookFar) (jz r))) (h : wp (f_X9_looked (F 0) (F 10) c_this_far c_this_bookOne c_this_bookOther c_this_bookFar) K) : WW g 0 0 (w_X9_looked (xG g) q F c_this_far c_this_bookOne c_this_bookOther c_this_bookFar) 0 [(0, .ref (q 35))] [] := by
  unfold f_X9_looked at h
  refine r_iconst C (pc := 0) dX9_looked_0 ?_
  refine r_istore_n C (pc := 1) dX9_looked_1 rfl (by decide) (L' := [(0, .ref (q 35)), (1, .int (jz 0))]) rfl ?_
  refine lq1_e (fun (v1_2 : Int) => WW g 0 0 (w_X9_looked (xG g) q F c_this_far c_this_bookOne c_this_bookOther c_this_bookFar) 2 [(0, .ref (q 35)), (1, .int (jz v1_2))] []) h (fun n2 hn2 v1_2 h => ?_)
  refine r_iload_n C (pc := 2) dX9_looked_2 rfl 1 rfl ?_
  refine r_aload_n C (pc := 3) dX9_looked_3 rfl 0 rfl ?_
  refine r_get C (pc := 4) dX9_looked_4 gf_X9_looked_258 0 rfl rfl ?_
  refine r_icmp_ge C (pc := 7) 62 dX9_looked_7 rfl h (fun c7 h => ?_) (fun c7 h => ?_)
  · refine r_bipush C (pc := 62) dX9_looked_62 rfl ?_
    exact r_iret C (pc := 64) dX9_looked_64 (hK (-5) (wp_s h) rfl)
  · refine r_aload_n C (pc := 10) dX9_looked_10 rfl 0 rfl ?_
    refine r_aload_n C (pc := 11) dX9_looked_11 rfl 0 rfl ?_
    refine r_get C (pc := 12) dX9_looked_12 gf_X9_looked_37 0 rfl rfl ?_
    refine r_iload_n C (pc := 15) dX9_looked_15 rfl 1 rfl ?_
    refine r_iald C (pc := 16) dX9_looked_16 h 2 rfl (fun h => ?_)
    refine r_aload_n C (pc := 17) dX9_looked_17 rfl 0 rfl ?_
    refine r_get C (pc := 18) dX9_looked_18 gf_X9_looked_40 0 rfl rfl ?_
    refine r_iload_n C (pc := 21) dX9_looked_21 rfl 1 rfl ?_
    refine r_iald C (pc := 22) dX9_looked_22 h 3 rfl (fun h => ?_)
    obtain ⟨r23, e23, h⟩ := wp_b1 h
    refine b_cVi C (pc := 23) dX9_looked_23 (c_X9_areTwo (xl g) (xG g) q F (c_this_bookOne (ix v1_2)) (c_this_bookOther (ix v1_2)) r23 e23) rfl gX9_looked_X9_areTwo ⟨rfl, rfl⟩ 2 hd_X9_areTwo ⟨Nat.le_of_ble_eq_true rfl, Nat.le_of_ble_eq_true rfl⟩ rfl 0 rfl rfl rfl [0] rfl (srt_nd 0 rfl) (ws' := w_X9_looked (xG g) q F c_this_far c_this_bookOne c_this_bookOther c_this_bookFar) (Put.m rfl rfl rfl) rfl (rest := []) rfl (Nat.le_of_ble_eq_true rfl) ⟨Nat.zero_le _, Nat.zero_le _⟩ ?_
    refine jn_e (fun (k54 : Option Int) => wp (k54) K → WW g 0 0 (w_X9_looked (xG g) q F c_this_far c_this_bookOne c_this_bookOther c_this_bookFar) 54 [(1, .int (jz v1_2))] []) h (fun h => ?_) (fun k54 hk54 h => ?_)
    · refine r_iload_n C (pc := 54) dX9_looked_54 rfl 0 rfl ?_
      exact r_iret C (pc := 55) dX9_looked_55 (hK v1_2 (wp_s h) rfl)
    · refine r_if_eq C (pc := 26) 54 dX9_looked_26 rfl h (fun c26 h => ?_) (fun c26 h => ?_)
      · refine r_sub [1] rfl ?_
        exact hk54 h
      · refine r_aload_n C (pc := 29) dX9_looked_29 rfl 0 rfl ?_
        refine r_aload_n C (pc := 30) dX9_looked_30 rfl 0 rfl ?_
        refine r_get C (pc := 31) dX9_looked_31 gf_X9_looked_37 0 rfl rfl ?_
        refine r_iload_n C (pc := 34) dX9_looked_34 rfl 1 rfl ?_
        refine r_iald C (pc := 35) dX9_looked_35 h 2 rfl (fun h => ?_)
        refine r_aload_n C (pc := 36) dX9_looked_36 rfl 0 rfl ?_
        refine r_get C (pc := 37) dX9_looked_37 gf_X9_looked_40 0 rfl rfl ?_
        refine r_iload_n C (pc := 40) dX9_looked_40 rfl 1 rfl ?_
        refine r_iald C (pc := 41) dX9_looked_41 h 3 rfl (fun h => ?_)
        obtain ⟨r42, e42, h⟩ := wp_b1 h
        refine b_cVi C (pc := 42) dX9_looked_42 (c_X9_d (xl g) (xG g) q F c_this_far (c_this_bookOne (ix v1_2)) (c_this_bookOther (ix v1_2)) r42 e42) rfl gX9_looked_X9_d ⟨rfl, rfl⟩ 2 hd_X9_d ⟨Nat.le_of_ble_eq_true rfl, Nat.le_of_ble_eq_true rfl⟩ rfl 0 rfl rfl rfl [0, 1] rfl (srt_nd 0 rfl) (ws' := w_X9_looked (xG g) q F c_this_far c_this_bookOne c_this_bookOther c_this_bookFar) (Put.m rfl rfl rfl) rfl (rest := []) rfl (Nat.le_of_ble_eq_true rfl) ⟨Nat.zero_le _, Nat.zero_le _⟩ ?_
        refine r_aload_n C (pc := 45) dX9_looked_45 rfl 0 rfl ?_
        refine r_get C (pc := 46) dX9_looked_46 gf_X9_looked_43 0 rfl rfl ?_
        refine r_iload_n C (pc := 49) dX9_looked_49 rfl 1 rfl ?_
        refine r_iald C (pc := 50) dX9_looked_50 h 4 rfl (fun h => ?_)
        refine r_icmp_eq C (pc := 51) 56 dX9_looked_51 rfl h (fun c51 h => ?_) (fun c51 h => ?_)
        · refine r_iinc C (pc := 56) dX9_looked_56 1 rfl (by decide) (L' := [(0, .ref (q 35)), (1, .int (jz (v1_2 + 1)))]) rfl ?_
          refine r_goto C (pc := 59) 2 dX9_looked_59 rfl ?_
          exact hn2 (v1_2 + 1) h
        · refine r_sub [1] rfl ?_
          exact hk54 h
theorem c_X9_looked (l : Launch) (G : gG) (q : Nat → Nat) (F : Nat → Int) (c_this_far : Nat → Int) (c_this_bookOne : Nat → Int) (c_this_bookOther : Nat → Int) (c_this_bookFar : Nat → Int) (r : Int) (hf : f_X9_looked (F 0) (F 10) c_this_far c_this_bookOne c_this_bookOther c_this_bookFar = some r) : CTi l yX9_looked wsX9_looked rm_X9_looked G (w_X9_looked G q F c_this_far c_this_bookOne c_this_bookOther c_this_bookFar) [.ref (q 35)] (jz r) (w_X9_looked G q F c_this_far c_this_bookOne c_this_bookOther c_this_bookFar) := CTi_of (by decide) rfl rfl (Nat.le_of_ble_eq_true rfl) (fun g C hG hl hF => by
    subst hG
    subst hl
    exact k_X9_looked C q F c_this_far c_this_bookOne c_this_bookOther c_this_bookFar (fun x => x = r) (fun r' e => by cases e; exact hF) ⟨_, hf, rfl⟩)

-- TightHullsModel.feed(I)I
def f_X9_feed (p1 : Int) (m_texts : Int) (c_this_text : Nat → Int) : Option (Int × Int × (Nat → Int)) := bd1 (f_X9_in p1 0 127) (fun r4 => if eqI r4 0 = true then (some ((-2), m_texts, c_this_text)) else (if eqI m_texts 100 = true then (some ((-4), m_texts, c_this_text)) else (grd (iin m_texts 100) (lv ((m_texts + 1)) (fun x42 => some (x42, x42, (up c_this_text (ix m_texts) p1)))))))
abbrev rm_X9_feed : Room := { frames := 1, cells := 0, slots := 0, locals := 22 }
abbrev w_X9_feed (G : gG) (q : Nat → Nat) (F : Nat → Int) (c_this_text : Nat → Int) : va_W := [((q 35), oX9 F q), ((q 14), aI G 100 c_this_text)]
theorem hd_X9_feed : yX9_feed.cls = RX9 ∧ yX9_feed.cls ≠ "java/lang/invoke/MethodHandle" ∧ yX9_feed.cls ≠ "java/lang/invoke/VarHandle" ∧ (parseMethodDescriptor yX9_feed.desc).map (fun d => d.parameters.length) = some 1 := by decide +kernel
theorem in_X9_feed_X9 : ∀ w ∈ u_ws RX9 TX9 35, w ∈ wsX9_feed := fun w h => List.mem_cons_of_mem _ (List.mem_append_right _ (h))
theorem gf_X9_feed_261 : GF wsX9_feed RX9 261 8 15 := ⟨RX9, TX9, 35, rfl, in_X9_feed_X9, by decide, List.mem_of_getElem? (i := 1) rfl⟩
theorem gf_X9_feed_46 : GF wsX9_feed RX9 46 8 14 := ⟨RX9, TX9, 35, rfl, in_X9_feed_X9, by decide, List.mem_of_getElem? (i := 2) rfl⟩
theorem pf_X9_feed_261 : PF wsX9_feed RX9 261 8 15 .int false := ⟨RX9, TX9, 35, tyX9, rfl, in_X9_feed_X9, tyX9_ok, nmX9, by decide, List.mem_of_getElem? (i := 1) rfl, rfl, rfl, rfl⟩
set_option maxRecDepth 100000 in
set_option maxHeartbeats 4000000 in
theorem k_X9_feed {g : XC} (C : XOk g cX9_feed RX9 wsX9_feed rm_X9_feed 2) (q : Nat → Nat) (F : Nat → Int) (c_this_text : Nat → Int) (p1 : Int) (K : (Int × Int × (Nat → Int)) → Prop) (hK : ∀ (r : Int) (o0 : Int) (o1 : Nat → Int), K (r, o0, o1) → (narrow .int (.int (jz r)) = .int (jz r) → FinI g 0 0 (w_X9_feed (xG g) q (up F 15 o0) o1) (jz r))) (h : wp (f_X9_feed p1 (F 15) c_this_text) K) : WW g 0 0 (w_X9_feed (xG g) q F c_this_text) 0 [(0, .ref (q 35)), (1, .int (jz p1))] [] := by
  unfold f_X9_feed at h
  refine r_iload_n C (pc := 0) dX9_feed_0 rfl 1 rfl ?_
  refine r_iconst C (pc := 1) dX9_feed_1 ?_
  refine r_bipush C (pc := 2) dX9_feed_2 rfl ?_
  obtain ⟨r4, e4, h⟩ := wp_b1 h
  refine b_cSi C (pc := 4) dX9_feed_4 (c_X9_in (xl g) (xG g) p1 0 127 r4 e4) rfl gX9_feed_X9_in ⟨rfl, rfl⟩ 3 hd_X9_in ⟨Nat.le_of_ble_eq_true rfl, Nat.le_of_ble_eq_true rfl⟩ rfl [] rfl (srt_nd 0 rfl) (ws' := w_X9_feed (xG g) q F c_this_text) (Put.m rfl rfl rfl) rfl (rest := []) rfl (Nat.le_of_ble_eq_true rfl) ⟨Nat.zero_le _, Nat.zero_le _⟩ ?_
  refine r_if_ne C (pc := 7) 13 dX9_feed_7 rfl h (fun c7 h => ?_) (fun c7 h => ?_)
  · refine r_aload_n C (pc := 13) dX9_feed_13 rfl 0 rfl ?_
    refine r_get C (pc := 14) dX9_feed_14 gf_X9_feed_261 0 rfl rfl ?_
    refine r_bipush C (pc := 17) dX9_feed_17 rfl ?_
    refine r_icmp_ne C (pc := 19) 25 dX9_feed_19 rfl h (fun c19 h => ?_) (fun c19 h => ?_)
    · refine r_aload_n C (pc := 25) dX9_feed_25 rfl 0 rfl ?_
      refine r_get C (pc := 26) dX9_feed_26 gf_X9_feed_46 0 rfl rfl ?_
      refine r_aload_n C (pc := 29) dX9_feed_29 rfl 0 rfl ?_
      refine r_get C (pc := 30) dX9_feed_30 gf_X9_feed_261 0 rfl rfl ?_
      refine r_iload_n C (pc := 33) dX9_feed_33 rfl 1 rfl ?_
      refine r_iast C (pc := 34) dX9_feed_34 h 1 rfl (ws' := w_X9_feed (xG g) q F (up c_this_text (ix (F 15)) p1)) rfl (fun h => ?_)
      refine r_aload_n C (pc := 35) dX9_feed_35 rfl 0 rfl ?_
      refine r_dup C (pc := 36) dX9_feed_36 rfl ?_
      refine r_get C (pc := 37) dX9_feed_37 gf_X9_feed_261 0 rfl rfl ?_
      refine r_iconst C (pc := 40) dX9_feed_40 ?_
      refine r_iadd C (pc := 41) dX9_feed_41 ?_
      refine r_let h (fun x42 h => ?_)
      refine r_puti C (pc := 42) dX9_feed_42 pf_X9_feed_261 0 rfl (Nat.le_of_ble_eq_true rfl) (ws' := w_X9_feed (xG g) q (up F 15 x42) (up c_this_text (ix (F 15)) p1)) rfl ?_
      refine r_aload_n C (pc := 45) dX9_feed_45 rfl 0 rfl ?_
      refine r_get C (pc := 46) dX9_feed_46 gf_X9_feed_261 0 rfl rfl ?_
      exact r_iret C (pc := 49) dX9_feed_49 (hK x42 x42 (up c_this_text (ix (F 15)) p1) (wp_s h) rfl)
    · refine r_bipush C (pc := 22) dX9_feed_22 rfl ?_
      exact r_iret C (pc := 24) dX9_feed_24 (hK (-4) (F 15) c_this_text (wp_s h) rfl)
  · refine r_bipush C (pc := 10) dX9_feed_10 rfl ?_
    exact r_iret C (pc := 12) dX9_feed_12 (hK (-2) (F 15) c_this_text (wp_s h) rfl)
theorem c_X9_feed (l : Launch) (G : gG) (q : Nat → Nat) (F : Nat → Int) (c_this_text : Nat → Int) (p1 : Int) (r : Int) (o0 : Int) (o1 : Nat → Int) (hf : f_X9_feed p1 (F 15) c_this_text = some (r, o0, o1)) : CTi l yX9_feed wsX9_feed rm_X9_feed G (w_X9_feed G q F c_this_text) [.ref (q 35), .int (jz p1)] (jz r) (w_X9_feed G q (up F 15 o0) o1) := CTi_of (by decide) rfl rfl (Nat.le_of_ble_eq_true rfl) (fun g C hG hl hF => by
    subst hG
    subst hl
    exact k_X9_feed C q F c_this_text p1 (fun x => x = (r, o0, o1)) (fun r' o0' o1' e => by cases e; exact hF) ⟨_, hf, rfl⟩)

-- TightHullsModel.isDigit()Z
def f_X9_isDigit (m_texts : Int) (m_place : Int) (c_this_text : Nat → Int) : Option Int := jn (fun (s0_35 : Int) => grd (isB s0_35) (some s0_35)) (fun (k35 : Int → Option Int) => jn (k35 0) (fun (k34 : Option Int) => if ltI m_place m_texts = true then (grd (iin m_place 100) (bd1 (f_X9_in (c_this_text (ix m_place)) 48 57) (fun r24 => if eqI r24 0 = true then k34 else (k35 1)))) else k34))
abbrev rm_X9_isDigit : Room := { frames := 1, cells := 0, slots := 0, locals := 22 }
abbrev w_X9_isDigit (G : gG) (q : Nat → Nat) (F : Nat → Int) (c_this_text : Nat → Int) : va_W := [((q 35), oX9 F q), ((q 14), aI G 100 c_this_text)]
theorem hd_X9_isDigit : yX9_isDigit.cls = RX9 ∧ yX9_isDigit.cls ≠ "java/lang/invoke/MethodHandle" ∧ yX9_isDigit.cls ≠ "java/lang/invoke/VarHandle" ∧ (parseMethodDescriptor yX9_isDigit.desc).map (fun d => d.parameters.length) = some 0 := by decide +kernel
theorem in_X9_isDigit_X9 : ∀ w ∈ u_ws RX9 TX9 35, w ∈ wsX9_isDigit := fun w h => List.mem_cons_of_mem _ (List.mem_append_right _ (h))
theorem gf_X9_isDigit_264 : GF wsX9_isDigit RX9 264 8 27 := ⟨RX9, TX9, 35, rfl, in_X9_isDigit_X9, by decide, List.mem_of_getElem? (i := 1) rfl⟩
theorem gf_X9_isDigit_261 : GF wsX9_isDigit RX9 261 8 15 := ⟨RX9, TX9, 35, rfl, in_X9_isDigit_X9, by decide, List.mem_of_getElem? (i := 2) rfl⟩
theorem gf_X9_isDigit_46 : GF wsX9_isDigit RX9 46 8 14 := ⟨RX9, TX9, 35, rfl, in_X9_isDigit_X9, by decide, List.mem_of_getElem? (i := 3) rfl⟩
set_option maxRecDepth 100000 in
set_option maxHeartbeats 4000000 in
theorem k_X9_isDigit {g : XC} (C : XOk g cX9_isDigit RX9 wsX9_isDigit rm_X9_isDigit 1) (q : Nat → Nat) (F : Nat → Int) (c_this_text : Nat → Int)  (K : Int → Prop) (hK : ∀ (r : Int), K r → (narrow .boolean (.int (jz r)) = .int (jz r) → FinI g 0 0 (w_X9_isDigit (xG g) q F c_this_text) (jz r))) (h : wp (f_X9_isDigit (F 15) (F 27) c_this_text) K) : WW g 0 0 (w_X9_isDigit (xG g) q F c_this_text) 0 [(0, .ref (q 35))] [] := by
  unfold f_X9_isDigit at h
  refine r_aload_n C (pc := 0) dX9_isDigit_0 rfl 0 rfl ?_
  refine r_get C (pc := 1) dX9_isDigit_1 gf_X9_isDigit_264 0 rfl rfl ?_
  refine r_aload_n C (pc := 4) dX9_isDigit_4 rfl 0 rfl ?_
  refine r_get C (pc := 5) dX9_isDigit_5 gf_X9_isDigit_261 0 rfl rfl ?_
  refine jn_e (fun (k35 : Int → Option Int) => ∀ (s0_35 : Int), wp (k35 s0_35) K → WW g 0 0 (w_X9_isDigit (xG g) q F c_this_text) 35 [] [.int (jz s0_35)]) h (fun s0_35 h => ?_) (fun k35 hk35 h => ?_)
  · exact r_iret C (pc := 35) dX9_isDigit_35 (hK s0_35 (wp_s (wp_g h).2) (nB (wp_g h).1).1)
  · refine jn_e (fun (k34 : Option Int) => wp (k34) K → WW g 0 0 (w_X9_isDigit (xG g) q F c_this_text) 34 [] []) h (fun h => ?_) (fun k34 hk34 h => ?_)
    · refine r_iconst C (pc := 34) dX9_isDigit_34 ?_
      exact hk35 0 h
    · refine r_icmp_ge C (pc := 8) 34 dX9_isDigit_8 rfl h (fun c8 h => ?_) (fun c8 h => ?_)
      · refine r_sub [] rfl ?_
        exact hk34 h
      · refine r_aload_n C (pc := 11) dX9_isDigit_11 rfl 0 rfl ?_
        refine r_get C (pc := 12) dX9_isDigit_12 gf_X9_isDigit_46 0 rfl rfl ?_
        refine r_aload_n C (pc := 15) dX9_isDigit_15 rfl 0 rfl ?_
        refine r_get C (pc := 16) dX9_isDigit_16 gf_X9_isDigit_264 0 rfl rfl ?_
        refine r_iald C (pc := 19) dX9_isDigit_19 h 1 rfl (fun h => ?_)
        refine r_bipush C (pc := 20) dX9_isDigit_20 rfl ?_
        refine r_bipush C (pc := 22) dX9_isDigit_22 rfl ?_
        obtain ⟨r24, e24, h⟩ := wp_b1 h
        refine b_cSi C (pc := 24) dX9_isDigit_24 (c_X9_in (xl g) (xG g) (c_this_text (ix (F 27))) 48 57 r24 e24) rfl gX9_isDigit_X9_in ⟨rfl, rfl⟩ 3 hd_X9_in ⟨Nat.le_of_ble_eq_true rfl, Nat.le_of_ble_eq_true rfl⟩ rfl [] rfl (srt_nd 0 rfl) (ws' := w_X9_isDigit (xG g) q F c_this_text) (Put.m rfl rfl rfl) rfl (rest := []) rfl (Nat.le_of_ble_eq_true rfl) ⟨Nat.zero_le _, Nat.zero_le _⟩ ?_
        refine r_if_eq C (pc := 27) 34 dX9_isDigit_27 rfl h (fun c27 h => ?_) (fun c27 h => ?_)
        · refine r_sub [] rfl ?_
          exact hk34 h
        · refine r_iconst C (pc := 30) dX9_isDigit_30 ?_
          refine r_goto C (pc := 31) 35 dX9_isDigit_31 rfl ?_
          refine r_sub [] rfl ?_
          exact hk35 1 h
theorem c_X9_isDigit (l : Launch) (G : gG) (q : Nat → Nat) (F : Nat → Int) (c_this_text : Nat → Int) (r : Int) (hf : f_X9_isDigit (F 15) (F 27) c_this_text = some r) : CTi l yX9_isDigit wsX9_isDigit rm_X9_isDigit G (w_X9_isDigit G q F c_this_text) [.ref (q 35)] (jz r) (w_X9_isDigit G q F c_this_text) := CTi_of (by decide) rfl rfl (Nat.le_of_ble_eq_true rfl) (fun g C hG hl hF => by
    subst hG
    subst hl
    exact k_X9_isDigit C q F c_this_text (fun x => x = r) (fun r' e => by cases e; exact hF) ⟨_, hf, rfl⟩)
