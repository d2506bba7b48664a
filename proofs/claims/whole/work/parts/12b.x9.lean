-- TightHullsModel.span()I
def f_X9_span (m_points : Int) (c_this_far : Nat → Int) : Option Int := lq2 (fun (n4 : Int → Int → Option Int) (v1_4 : Int) (v2_4 : Int) => if ltI v2_4 m_points = true then (lq2 (fun (n14 : Int → Int → Option Int) (v1_14 : Int) (v3_14 : Int) => if ltI v3_14 v2_4 = true then (bd1 (f_X9_d v2_4 v3_14 c_this_far) (fun r23 => lv ((maxI v1_14 r23)) (fun x29 => n14 x29 (v3_14 + 1)))) else (n4 v1_14 (v2_4 + 1))) 300 v1_4 0) else (some v1_4)) 300 0 0
abbrev rm_X9_span : Room := { frames := 1, cells := 0, slots := 0, locals := 60 }
abbrev w_X9_span (G : gG) (q : Nat → Nat) (F : Nat → Int) (c_this_far : Nat → Int) : va_W := [((q 35), oX9 F q), ((q 1), aI G 25 c_this_far)]
theorem hd_X9_span : yX9_span.cls = RX9 ∧ yX9_span.cls ≠ "java/lang/invoke/MethodHandle" ∧ yX9_span.cls ≠ "java/lang/invoke/VarHandle" ∧ (parseMethodDescriptor yX9_span.desc).map (fun d => d.parameters.length) = some 0 := by decide +kernel
theorem in_X9_span_X9 : ∀ w ∈ u_ws RX9 TX9 35, w ∈ wsX9_span := fun w h => List.mem_cons_of_mem _ (List.mem_append_right _ (h))
theorem gf_X9_span_9 : GF wsX9_span RX9 9 8 0 := ⟨RX9, TX9, 35, rfl, in_X9_span_X9, by decide, List.mem_of_getElem? (i := 1) rfl⟩
theorem mm_X9_span_2 : Cond.methodLink RX9 133 Lib.Math.max.name ∈ wsX9_span := List.mem_of_getElem? (i := 2) rfl
theorem mm_X9_span_3 : Cond.static Lib.Math.max.name ∈ wsX9_span := List.mem_of_getElem? (i := 3) rfl
theorem mm_X9_span_4 : Cond.initialized "java/lang/Math" ∈ wsX9_span := List.mem_of_getElem? (i := 4) rfl
theorem mm_X9_span_5 : Cond.code Lib.Math.max.name Lib.Math.max.code 2 (some .int) ∈ wsX9_span := List.mem_of_getElem? (i := 5) rfl
set_option maxRecDepth 100000 in
set_option maxHeartbeats 4000000 in
theorem k_X9_span {g : XC} (C : XOk g cX9_span RX9 wsX9_span rm_X9_span 4) (q : Nat → Nat) (F : Nat → Int) (c_this_far : Nat → Int)  (K : Int → Prop) (hK : ∀ (r : Int), K r → (narrow .int (.int (jz r)) = .int (jz r) → FinI g 0 0 (w_X9_span (xG g) q F c_this_far) (jz r))) (h : wp (f_X9_span (F 0) c_this_far) K) : WW g 0 0 (w_X9_span (xG g) q F c_this_far) 0 [(0, .ref (q 35))] [] := by
  unfold f_X9_span at h
  refine r_iconst C (pc := 0) dX9_span_0 ?_
  refine r_istore_n C (pc := 1) dX9_span_1 rfl (by decide) (L' := [(0, .ref (q 35)), (1, .int (jz 0))]) rfl ?_
  refine r_iconst C (pc := 2) dX9_span_2 ?_
  refine r_istore_n C (pc := 3) dX9_span_3 rfl (by decide) (L' := [(0, .ref (q 35)), (1, .int (jz 0)), (2, .int (jz 0))]) rfl ?_
  refine lq2_e (fun (v1_4 : Int) (v2_4 : Int) => WW g 0 0 (w_X9_span (xG g) q F c_this_far) 4 [(0, .ref (q 35)), (1, .int (jz v1_4)), (2, .int (jz v2_4))] []) h (fun n4 hn4 v1_4 v2_4 h => ?_)
  refine r_iload_n C (pc := 4) dX9_span_4 rfl 2 rfl ?_
  refine r_aload_n C (pc := 5) dX9_span_5 rfl 0 rfl ?_
  refine r_get C (pc := 6) dX9_span_6 gf_X9_span_9 0 rfl rfl ?_
  refine r_icmp_ge C (pc := 9) 42 dX9_span_9 rfl h (fun c9 h => ?_) (fun c9 h => ?_)
  · refine r_iload_n C (pc := 42) dX9_span_42 rfl 1 rfl ?_
    exact r_iret C (pc := 43) dX9_span_43 (hK v1_4 (wp_s h) rfl)
  · refine r_iconst C (pc := 12) dX9_span_12 ?_
    refine r_istore_n C (pc := 13) dX9_span_13 rfl (by decide) (L' := [(0, .ref (q 35)), (1, .int (jz v1_4)), (2, .int (jz v2_4)), (3, .int (jz 0))]) rfl ?_
    refine lq2_e (fun (v1_14 : Int) (v3_14 : Int) => WW g 0 0 (w_X9_span (xG g) q F c_this_far) 14 [(0, .ref (q 35)), (1, .int (jz v1_14)), (2, .int (jz v2_4)), (3, .int (jz v3_14))] []) h (fun n14 hn14 v1_14 v3_14 h => ?_)
    refine r_iload_n C (pc := 14) dX9_span_14 rfl 3 rfl ?_
    refine r_iload_n C (pc := 15) dX9_span_15 rfl 2 rfl ?_
    refine r_icmp_ge C (pc := 16) 36 dX9_span_16 rfl h (fun c16 h => ?_) (fun c16 h => ?_)
    · refine r_iinc C (pc := 36) dX9_span_36 2 rfl (by decide) (L' := [(0, .ref (q 35)), (1, .int (jz v1_14)), (2, .int (jz (v2_4 + 1))), (3, .int (jz v3_14))]) rfl ?_
      refine r_goto C (pc := 39) 4 dX9_span_39 rfl ?_
      refine r_sub [0, 1, 2] rfl ?_
      exact hn4 v1_14 (v2_4 + 1) h
    · refine r_iload_n C (pc := 19) dX9_span_19 rfl 1 rfl ?_
      refine r_aload_n C (pc := 20) dX9_span_20 rfl 0 rfl ?_
      refine r_iload_n C (pc := 21) dX9_span_21 rfl 2 rfl ?_
      refine r_iload_n C (pc := 22) dX9_span_22 rfl 3 rfl ?_
      obtain ⟨r23, e23, h⟩ := wp_b1 h
      refine b_cVi C (pc := 23) dX9_span_23 (c_X9_d (xl g) (xG g) q F c_this_far v2_4 v3_14 r23 e23) rfl gX9_span_X9_d ⟨rfl, rfl⟩ 2 hd_X9_d ⟨Nat.le_of_ble_eq_true rfl, Nat.le_of_ble_eq_true rfl⟩ rfl 0 rfl rfl rfl [0, 1] rfl (srt_nd 0 rfl) (ws' := w_X9_span (xG g) q F c_this_far) (Put.m rfl rfl rfl) rfl (rest := [.int (jz v1_14)]) rfl (Nat.le_of_ble_eq_true rfl) ⟨Nat.zero_le _, Nat.zero_le _⟩ ?_
      refine r_mmax C (pc := 26) dX9_span_26 mm_X9_span_2 mm_X9_span_3 mm_X9_span_4 mm_X9_span_5 (Nat.le_of_ble_eq_true rfl) (Nat.le_of_ble_eq_true rfl) ⟨Nat.zero_le _, Nat.zero_le _⟩ ?_
      refine r_let h (fun x29 h => ?_)
      refine r_istore_n C (pc := 29) dX9_span_29 rfl (by decide) (L' := [(0, .ref (q 35)), (1, .int (jz x29)), (2, .int (jz v2_4)), (3, .int (jz v3_14))]) rfl ?_
      refine r_iinc C (pc := 30) dX9_span_30 3 rfl (by decide) (L' := [(0, .ref (q 35)), (1, .int (jz x29)), (2, .int (jz v2_4)), (3, .int (jz (v3_14 + 1)))]) rfl ?_
      refine r_goto C (pc := 33) 14 dX9_span_33 rfl ?_
      exact hn14 x29 (v3_14 + 1) h
theorem c_X9_span (l : Launch) (G : gG) (q : Nat → Nat) (F : Nat → Int) (c_this_far : Nat → Int) (r : Int) (hf : f_X9_span (F 0) c_this_far = some r) : CTi l yX9_span wsX9_span rm_X9_span G (w_X9_span G q F c_this_far) [.ref (q 35)] (jz r) (w_X9_span G q F c_this_far) := CTi_of (by decide) rfl rfl (Nat.le_of_ble_eq_true rfl) (fun g C hG hl hF => by
    subst hG
    subst hl
    exact k_X9_span C q F c_this_far (fun x => x = r) (fun r' e => by cases e; exact hF) ⟨_, hf, rfl⟩)

-- TightHullsModel.often(I)I
def f_X9_often (p1 : Int) (m_points : Int) (c_this_far : Nat → Int) : Option Int := lq2 (fun (n4 : Int → Int → Option Int) (v2_4 : Int) (v3_4 : Int) => if ltI v3_4 m_points = true then (lq2 (fun (n15 : Int → Int → Option Int) (v2_15 : Int) (v4_15 : Int) => if ltI v4_15 v3_4 = true then (bd1 (f_X9_d v3_4 v4_15 c_this_far) (fun r26 => jn (fun (s1_38 : Int) => lv ((v2_15 + s1_38)) (fun x39 => n15 x39 (v4_15 + 1))) (fun (k38 : Int → Option Int) => if eqI r26 p1 = true then (k38 1) else (k38 0)))) else (n4 v2_15 (v3_4 + 1))) 300 v2_4 0) else (some v2_4)) 300 0 0
abbrev rm_X9_often : Room := { frames := 1, cells := 0, slots := 0, locals := 22 }
abbrev w_X9_often (G : gG) (q : Nat → Nat) (F : Nat → Int) (c_this_far : Nat → Int) : va_W := [((q 35), oX9 F q), ((q 1), aI G 25 c_this_far)]
theorem hd_X9_often : yX9_often.cls = RX9 ∧ yX9_often.cls ≠ "java/lang/invoke/MethodHandle" ∧ yX9_often.cls ≠ "java/lang/invoke/VarHandle" ∧ (parseMethodDescriptor yX9_often.desc).map (fun d => d.parameters.length) = some 1 := by decide +kernel
theorem in_X9_often_X9 : ∀ w ∈ u_ws RX9 TX9 35, w ∈ wsX9_often := fun w h => List.mem_cons_of_mem _ (List.mem_append_right _ (h))
theorem gf_X9_often_9 : GF wsX9_often RX9 9 8 0 := ⟨RX9, TX9, 35, rfl, in_X9_often_X9, by decide, List.mem_of_getElem? (i := 1) rfl⟩
set_option maxRecDepth 100000 in
set_option maxHeartbeats 4000000 in
theorem k_X9_often {g : XC} (C : XOk g cX9_often RX9 wsX9_often rm_X9_often 5) (q : Nat → Nat) (F : Nat → Int) (c_this_far : Nat → Int) (p1 : Int) (K : Int → Prop) (hK : ∀ (r : Int), K r → (narrow .int (.int (jz r)) = .int (jz r) → FinI g 0 0 (w_X9_often (xG g) q F c_this_far) (jz r))) (h : wp (f_X9_often p1 (F 0) c_this_far) K) : WW g 0 0 (w_X9_often (xG g) q F c_this_far) 0 [(0, .ref (q 35)), (1, .int (jz p1))] [] := by
  unfold f_X9_often at h
  refine r_iconst C (pc := 0) dX9_often_0 ?_
  refine r_istore_n C (pc := 1) dX9_often_1 rfl (by decide) (L' := [(0, .ref (q 35)), (1, .int (jz p1)), (2, .int (jz 0))]) rfl ?_
  refine r_iconst C (pc := 2) dX9_often_2 ?_
  refine r_istore_n C (pc := 3) dX9_often_3 rfl (by decide) (L' := [(0, .ref (q 35)), (1, .int (jz p1)), (2, .int (jz 0)), (3, .int (jz 0))]) rfl ?_
  refine lq2_e (fun (v2_4 : Int) (v3_4 : Int) => WW g 0 0 (w_X9_often (xG g) q F c_this_far) 4 [(0, .ref (q 35)), (1, .int (jz p1)), (2, .int (jz v2_4)), (3, .int (jz v3_4))] []) h (fun n4 hn4 v2_4 v3_4 h => ?_)
  refine r_iload_n C (pc := 4) dX9_often_4 rfl 3 rfl ?_
  refine r_aload_n C (pc := 5) dX9_often_5 rfl 0 rfl ?_
  refine r_get C (pc := 6) dX9_often_6 gf_X9_often_9 0 rfl rfl ?_
  refine r_icmp_ge C (pc := 9) 52 dX9_often_9 rfl h (fun c9 h => ?_) (fun c9 h => ?_)
  · refine r_iload_n C (pc := 52) dX9_often_52 rfl 2 rfl ?_
    exact r_iret C (pc := 53) dX9_often_53 (hK v2_4 (wp_s h) rfl)
  · refine r_iconst C (pc := 12) dX9_often_12 ?_
    refine r_istore C (pc := 13) dX9_often_13 (by decide) (L' := [(0, .ref (q 35)), (1, .int (jz p1)), (2, .int (jz v2_4)), (3, .int (jz v3_4)), (4, .int (jz 0))]) rfl ?_
    refine lq2_e (fun (v2_15 : Int) (v4_15 : Int) => WW g 0 0 (w_X9_often (xG g) q F c_this_far) 15 [(0, .ref (q 35)), (1, .int (jz p1)), (2, .int (jz v2_15)), (3, .int (jz v3_4)), (4, .int (jz v4_15))] []) h (fun n15 hn15 v2_15 v4_15 h => ?_)
    refine r_iload C (pc := 15) dX9_often_15 4 rfl ?_
    refine r_iload_n C (pc := 17) dX9_often_17 rfl 3 rfl ?_
    refine r_icmp_ge C (pc := 18) 46 dX9_often_18 rfl h (fun c18 h => ?_) (fun c18 h => ?_)
    · refine r_iinc C (pc := 46) dX9_often_46 3 rfl (by decide) (L' := [(0, .ref (q 35)), (1, .int (jz p1)), (2, .int (jz v2_15)), (3, .int (jz (v3_4 + 1))), (4, .int (jz v4_15))]) rfl ?_
      refine r_goto C (pc := 49) 4 dX9_often_49 rfl ?_
      refine r_sub [0, 1, 2, 3] rfl ?_
      exact hn4 v2_15 (v3_4 + 1) h
    · refine r_iload_n C (pc := 21) dX9_often_21 rfl 2 rfl ?_
      refine r_aload_n C (pc := 22) dX9_often_22 rfl 0 rfl ?_
      refine r_iload_n C (pc := 23) dX9_often_23 rfl 3 rfl ?_
      refine r_iload C (pc := 24) dX9_often_24 4 rfl ?_
      obtain ⟨r26, e26, h⟩ := wp_b1 h
      refine b_cVi C (pc := 26) dX9_often_26 (c_X9_d (xl g) (xG g) q F c_this_far v3_4 v4_15 r26 e26) rfl gX9_often_X9_d ⟨rfl, rfl⟩ 2 hd_X9_d ⟨Nat.le_of_ble_eq_true rfl, Nat.le_of_ble_eq_true rfl⟩ rfl 0 rfl rfl rfl [0, 1] rfl (srt_nd 0 rfl) (ws' := w_X9_often (xG g) q F c_this_far) (Put.m rfl rfl rfl) rfl (rest := [.int (jz v2_15)]) rfl (Nat.le_of_ble_eq_true rfl) ⟨Nat.zero_le _, Nat.zero_le _⟩ ?_
      refine r_iload_n C (pc := 29) dX9_often_29 rfl 1 rfl ?_
      refine jn_e (fun (k38 : Int → Option Int) => ∀ (s1_38 : Int), wp (k38 s1_38) K → WW g 0 0 (w_X9_often (xG g) q F c_this_far) 38 [(0, .ref (q 35)), (1, .int (jz p1)), (3, .int (jz v3_4)), (4, .int (jz v4_15))] [.int (jz s1_38), .int (jz v2_15)]) h (fun s1_38 h => ?_) (fun k38 hk38 h => ?_)
      · refine r_iadd C (pc := 38) dX9_often_38 ?_
        refine r_let h (fun x39 h => ?_)
        refine r_istore_n C (pc := 39) dX9_often_39 rfl (by decide) (L' := [(0, .ref (q 35)), (1, .int (jz p1)), (2, .int (jz x39)), (3, .int (jz v3_4)), (4, .int (jz v4_15))]) rfl ?_
        refine r_iinc C (pc := 40) dX9_often_40 4 rfl (by decide) (L' := [(0, .ref (q 35)), (1, .int (jz p1)), (2, .int (jz x39)), (3, .int (jz v3_4)), (4, .int (jz (v4_15 + 1)))]) rfl ?_
        refine r_goto C (pc := 43) 15 dX9_often_43 rfl ?_
        exact hn15 x39 (v4_15 + 1) h
      · refine r_icmp_ne C (pc := 30) 37 dX9_often_30 rfl h (fun c30 h => ?_) (fun c30 h => ?_)
        · refine r_iconst C (pc := 37) dX9_often_37 ?_
          refine r_sub [0, 1, 3, 4] rfl ?_
          exact hk38 0 h
        · refine r_iconst C (pc := 33) dX9_often_33 ?_
          refine r_goto C (pc := 34) 38 dX9_often_34 rfl ?_
          refine r_sub [0, 1, 3, 4] rfl ?_
          exact hk38 1 h
theorem c_X9_often (l : Launch) (G : gG) (q : Nat → Nat) (F : Nat → Int) (c_this_far : Nat → Int) (p1 : Int) (r : Int) (hf : f_X9_often p1 (F 0) c_this_far = some r) : CTi l yX9_often wsX9_often rm_X9_often G (w_X9_often G q F c_this_far) [.ref (q 35), .int (jz p1)] (jz r) (w_X9_often G q F c_this_far) := CTi_of (by decide) rfl rfl (Nat.le_of_ble_eq_true rfl) (fun g C hG hl hF => by
    subst hG
    subst hl
    exact k_X9_often C q F c_this_far p1 (fun x => x = r) (fun r' e => by cases e; exact hF) ⟨_, hf, rfl⟩)

-- TightHullsModel.usual()I
def f_X9_usual (m_points : Int) (c_this_far : Nat → Int) : Option Int := lq2 (fun (n4 : Int → Int → Option Int) (v1_4 : Int) (v2_4 : Int) => if ltI 40 v2_4 = true then (some v1_4) else (bd1 (f_X9_often v2_4 m_points c_this_far) (fun r12 => bd1 (f_X9_often v1_4 m_points c_this_far) (fun r17 => jn (fun (s0_28 : Int) => n4 s0_28 (v2_4 + 1)) (fun (k28 : Int → Option Int) => if ltI r17 r12 = true then (k28 v2_4) else (k28 v1_4)))))) 300 0 1
abbrev rm_X9_usual : Room := { frames := 2, cells := 0, slots := 0, locals := 46 }
abbrev w_X9_usual (G : gG) (q : Nat → Nat) (F : Nat → Int) (c_this_far : Nat → Int) : va_W := [((q 35), oX9 F q), ((q 1), aI G 25 c_this_far)]
theorem hd_X9_usual : yX9_usual.cls = RX9 ∧ yX9_usual.cls ≠ "java/lang/invoke/MethodHandle" ∧ yX9_usual.cls ≠ "java/lang/invoke/VarHandle" ∧ (parseMethodDescriptor yX9_usual.desc).map (fun d => d.parameters.length) = some 0 := by decide +kernel
set_option maxRecDepth 100000 in
set_option maxHeartbeats 4000000 in
theorem k_X9_usual {g : XC} (C : XOk g cX9_usual RX9 wsX9_usual rm_X9_usual 3) (q : Nat → Nat) (F : Nat → Int) (c_this_far : Nat → Int)  (K : Int → Prop) (hK : ∀ (r : Int), K r → (narrow .int (.int (jz r)) = .int (jz r) → FinI g 0 0 (w_X9_usual (xG g) q F c_this_far) (jz r))) (h : wp (f_X9_usual (F 0) c_this_far) K) : WW g 0 0 (w_X9_usual (xG g) q F c_this_far) 0 [(0, .ref (q 35))] [] := by
  unfold f_X9_usual at h
  refine r_iconst C (pc := 0) dX9_usual_0 ?_
  refine r_istore_n C (pc := 1) dX9_usual_1 rfl (by decide) (L' := [(0, .ref (q 35)), (1, .int (jz 0))]) rfl ?_
  refine r_iconst C (pc := 2) dX9_usual_2 ?_
  refine r_istore_n C (pc := 3) dX9_usual_3 rfl (by decide) (L' := [(0, .ref (q 35)), (1, .int (jz 0)), (2, .int (jz 1))]) rfl ?_
  refine lq2_e (fun (v1_4 : Int) (v2_4 : Int) => WW g 0 0 (w_X9_usual (xG g) q F c_this_far) 4 [(0, .ref (q 35)), (1, .int (jz v1_4)), (2, .int (jz v2_4))] []) h (fun n4 hn4 v1_4 v2_4 h => ?_)
  refine r_iload_n C (pc := 4) dX9_usual_4 rfl 2 rfl ?_
  refine r_bipush C (pc := 5) dX9_usual_5 rfl ?_
  refine r_icmp_gt C (pc := 7) 35 dX9_usual_7 rfl h (fun c7 h => ?_) (fun c7 h => ?_)
  · refine r_iload_n C (pc := 35) dX9_usual_35 rfl 1 rfl ?_
    exact r_iret C (pc := 36) dX9_usual_36 (hK v1_4 (wp_s h) rfl)
  · refine r_aload_n C (pc := 10) dX9_usual_10 rfl 0 rfl ?_
    refine r_iload_n C (pc := 11) dX9_usual_11 rfl 2 rfl ?_
    obtain ⟨r12, e12, h⟩ := wp_b1 h
    refine b_cVi C (pc := 12) dX9_usual_12 (c_X9_often (xl g) (xG g) q F c_this_far v2_4 r12 e12) rfl gX9_usual_X9_often ⟨rfl, rfl⟩ 1 hd_X9_often ⟨Nat.le_of_ble_eq_true rfl, Nat.le_of_ble_eq_true rfl⟩ rfl 0 rfl rfl rfl [0, 1] rfl (srt_nd 0 rfl) (ws' := w_X9_usual (xG g) q F c_this_far) (Put.m rfl rfl rfl) rfl (rest := []) rfl (Nat.le_of_ble_eq_true rfl) ⟨Nat.zero_le _, Nat.zero_le _⟩ ?_
    refine r_aload_n C (pc := 15) dX9_usual_15 rfl 0 rfl ?_
    refine r_iload_n C (pc := 16) dX9_usual_16 rfl 1 rfl ?_
    obtain ⟨r17, e17, h⟩ := wp_b1 h
    refine b_cVi C (pc := 17) dX9_usual_17 (c_X9_often (xl g) (xG g) q F c_this_far v1_4 r17 e17) rfl gX9_usual_X9_often ⟨rfl, rfl⟩ 1 hd_X9_often ⟨Nat.le_of_ble_eq_true rfl, Nat.le_of_ble_eq_true rfl⟩ rfl 0 rfl rfl rfl [0, 1] rfl (srt_nd 0 rfl) (ws' := w_X9_usual (xG g) q F c_this_far) (Put.m rfl rfl rfl) rfl (rest := [.int (jz r12)]) rfl (Nat.le_of_ble_eq_true rfl) ⟨Nat.zero_le _, Nat.zero_le _⟩ ?_
    refine jn_e (fun (k28 : Int → Option Int) => ∀ (s0_28 : Int), wp (k28 s0_28) K → WW g 0 0 (w_X9_usual (xG g) q F c_this_far) 28 [(0, .ref (q 35)), (2, .int (jz v2_4))] [.int (jz s0_28)]) h (fun s0_28 h => ?_) (fun k28 hk28 h => ?_)
    · refine r_istore_n C (pc := 28) dX9_usual_28 rfl (by decide) (L' := [(0, .ref (q 35)), (1, .int (jz s0_28)), (2, .int (jz v2_4))]) rfl ?_
      refine r_iinc C (pc := 29) dX9_usual_29 2 rfl (by decide) (L' := [(0, .ref (q 35)), (1, .int (jz s0_28)), (2, .int (jz (v2_4 + 1)))]) rfl ?_
      refine r_goto C (pc := 32) 4 dX9_usual_32 rfl ?_
      exact hn4 s0_28 (v2_4 + 1) h
    · refine r_icmp_le C (pc := 20) 27 dX9_usual_20 rfl h (fun c20 h => ?_) (fun c20 h => ?_)
      · refine r_iload_n C (pc := 27) dX9_usual_27 rfl 1 rfl ?_
        refine r_sub [0, 2] rfl ?_
        exact hk28 v1_4 h
      · refine r_iload_n C (pc := 23) dX9_usual_23 rfl 2 rfl ?_
        refine r_goto C (pc := 24) 28 dX9_usual_24 rfl ?_
        refine r_sub [0, 2] rfl ?_
        exact hk28 v2_4 h
theorem c_X9_usual (l : Launch) (G : gG) (q : Nat → Nat) (F : Nat → Int) (c_this_far : Nat → Int) (r : Int) (hf : f_X9_usual (F 0) c_this_far = some r) : CTi l yX9_usual wsX9_usual rm_X9_usual G (w_X9_usual G q F c_this_far) [.ref (q 35)] (jz r) (w_X9_usual G q F c_this_far) := CTi_of (by decide) rfl rfl (Nat.le_of_ble_eq_true rfl) (fun g C hG hl hF => by
    subst hG
    subst hl
    exact k_X9_usual C q F c_this_far (fun x => x = r) (fun r' e => by cases e; exact hF) ⟨_, hf, rfl⟩)

-- TightHullsModel.isOrder(I)Z
def f_X9_isOrder (p1 : Int) (m_points : Int) (c_this_order : Nat → Int) : Option (Int × (Nat → Int)) := lq4 (fun (n7 : Int → Int → Int → (Nat → Int) → Option (Int × (Nat → Int))) (v2_7 : Int) (v3_7 : Int) (v4_7 : Int) (this_order_7 : Nat → Int) => if ltI v4_7 m_points = true then (grd (!(eqI m_points 0)) (lv ((remI v2_7 m_points)) (fun x28 => grd (iin v4_7 5) (grd (iin v4_7 5) (lv ((orI v3_7 (shlI 1 ((up this_order_7 (ix v4_7) x28) (ix v4_7))))) (fun x40 => grd (!(eqI m_points 0)) (lv ((divI v2_7 m_points)) (fun x47 => n7 x47 x40 (v4_7 + 1) (up this_order_7 (ix v4_7) x28))))))))) else (jn (fun (s0_71 : Int) => grd (isB s0_71) (some (s0_71, this_order_7))) (fun (k71 : Int → Option (Int × (Nat → Int))) => if eqI v3_7 ((shlI 1 m_points) - 1) = true then (k71 1) else (k71 0)))) 300 p1 0 0 c_this_order
abbrev rm_X9_isOrder : Room := { frames := 0, cells := 0, slots := 0, locals := 0 }
abbrev w_X9_isOrder (G : gG) (q : Nat → Nat) (F : Nat → Int) (c_this_order : Nat → Int) : va_W := [((q 35), oX9 F q), ((q 22), aI G 5 c_this_order)]
theorem hd_X9_isOrder : yX9_isOrder.cls = RX9 ∧ yX9_isOrder.cls ≠ "java/lang/invoke/MethodHandle" ∧ yX9_isOrder.cls ≠ "java/lang/invoke/VarHandle" ∧ (parseMethodDescriptor yX9_isOrder.desc).map (fun d => d.parameters.length) = some 1 := by decide +kernel
theorem in_X9_isOrder_X9 : ∀ w ∈ u_ws RX9 TX9 35, w ∈ wsX9_isOrder := fun w h => List.mem_cons_of_mem _ (List.mem_append_right _ (h))
theorem gf_X9_isOrder_9 : GF wsX9_isOrder RX9 9 8 0 := ⟨RX9, TX9, 35, rfl, in_X9_isOrder_X9, by decide, List.mem_of_getElem? (i := 1) rfl⟩
theorem gf_X9_isOrder_68 : GF wsX9_isOrder RX9 68 8 22 := ⟨RX9, TX9, 35, rfl, in_X9_isOrder_X9, by decide, List.mem_of_getElem? (i := 2) rfl⟩
set_option maxRecDepth 100000 in
set_option maxHeartbeats 4000000 in
theorem k_X9_isOrder {g : XC} (C : XOk g cX9_isOrder RX9 wsX9_isOrder rm_X9_isOrder 5) (q : Nat → Nat) (F : Nat → Int) (c_this_order : Nat → Int) (p1 : Int) (K : (Int × (Nat → Int)) → Prop) (hK : ∀ (r : Int) (o0 : Nat → Int), K (r, o0) → (narrow .boolean (.int (jz r)) = .int (jz r) → FinI g 0 0 (w_X9_isOrder (xG g) q F o0) (jz r))) (h : wp (f_X9_isOrder p1 (F 0) c_this_order) K) : WW g 0 0 (w_X9_isOrder (xG g) q F c_this_order) 0 [(0, .ref (q 35)), (1, .int (jz p1))] [] := by
  unfold f_X9_isOrder at h
  refine r_iload_n C (pc := 0) dX9_isOrder_0 rfl 1 rfl ?_
  refine r_istore_n C (pc := 1) dX9_isOrder_1 rfl (by decide) (L' := [(0, .ref (q 35)), (1, .int (jz p1)), (2, .int (jz p1))]) rfl ?_
  refine r_iconst C (pc := 2) dX9_isOrder_2 ?_
  refine r_istore_n C (pc := 3) dX9_isOrder_3 rfl (by decide) (L' := [(0, .ref (q 35)), (1, .int (jz p1)), (2, .int (jz p1)), (3, .int (jz 0))]) rfl ?_
  refine r_iconst C (pc := 4) dX9_isOrder_4 ?_
  refine r_istore C (pc := 5) dX9_isOrder_5 (by decide) (L' := [(0, .ref (q 35)), (1, .int (jz p1)), (2, .int (jz p1)), (3, .int (jz 0)), (4, .int (jz 0))]) rfl ?_
  refine r_sub [0, 2, 3, 4] rfl ?_
  refine lq4_e (fun (v2_7 : Int) (v3_7 : Int) (v4_7 : Int) (this_order_7 : Nat → Int) => WW g 0 0 (w_X9_isOrder (xG g) q F this_order_7) 7 [(0, .ref (q 35)), (2, .int (jz v2_7)), (3, .int (jz v3_7)), (4, .int (jz v4_7))] []) h (fun n7 hn7 v2_7 v3_7 v4_7 this_order_7 h => ?_)
  refine r_iload C (pc := 7) dX9_isOrder_7 3 rfl ?_
  refine r_aload_n C (pc := 9) dX9_isOrder_9 rfl 0 rfl ?_
  refine r_get C (pc := 10) dX9_isOrder_10 gf_X9_isOrder_9 0 rfl rfl ?_
  refine r_icmp_ge C (pc := 13) 54 dX9_isOrder_13 rfl h (fun c13 h => ?_) (fun c13 h => ?_)
  · refine r_iload_n C (pc := 54) dX9_isOrder_54 rfl 2 rfl ?_
    refine r_iconst C (pc := 55) dX9_isOrder_55 ?_
    refine r_aload_n C (pc := 56) dX9_isOrder_56 rfl 0 rfl ?_
    refine r_get C (pc := 57) dX9_isOrder_57 gf_X9_isOrder_9 0 rfl rfl ?_
    refine r_ishl C (pc := 60) dX9_isOrder_60 ?_
    refine r_iconst C (pc := 61) dX9_isOrder_61 ?_
    refine r_isub C (pc := 62) dX9_isOrder_62 ?_
    refine jn_e (fun (k71 : Int → Option (Int × (Nat → Int))) => ∀ (s0_71 : Int), wp (k71 s0_71) K → WW g 0 0 (w_X9_isOrder (xG g) q F this_order_7) 71 [] [.int (jz s0_71)]) h (fun s0_71 h => ?_) (fun k71 hk71 h => ?_)
    · exact r_iret C (pc := 71) dX9_isOrder_71 (hK s0_71 this_order_7 (wp_s (wp_g h).2) (nB (wp_g h).1).1)
    · refine r_icmp_ne C (pc := 63) 70 dX9_isOrder_63 rfl h (fun c63 h => ?_) (fun c63 h => ?_)
      · refine r_iconst C (pc := 70) dX9_isOrder_70 ?_
        refine r_sub [] rfl ?_
        exact hk71 0 h
      · refine r_iconst C (pc := 66) dX9_isOrder_66 ?_
        refine r_goto C (pc := 67) 71 dX9_isOrder_67 rfl ?_
        refine r_sub [] rfl ?_
        exact hk71 1 h
  · refine r_aload_n C (pc := 16) dX9_isOrder_16 rfl 0 rfl ?_
    refine r_get C (pc := 17) dX9_isOrder_17 gf_X9_isOrder_68 0 rfl rfl ?_
    refine r_iload C (pc := 20) dX9_isOrder_20 3 rfl ?_
    refine r_iload_n C (pc := 22) dX9_isOrder_22 rfl 1 rfl ?_
    refine r_aload_n C (pc := 23) dX9_isOrder_23 rfl 0 rfl ?_
    refine r_get C (pc := 24) dX9_isOrder_24 gf_X9_isOrder_9 0 rfl rfl ?_
    refine r_irem C (pc := 27) dX9_isOrder_27 h (fun h => ?_)
    refine r_let h (fun x28 h => ?_)
    refine r_iast C (pc := 28) dX9_isOrder_28 h 1 rfl (ws' := w_X9_isOrder (xG g) q F (up this_order_7 (ix v4_7) x28)) rfl (fun h => ?_)
    refine r_iload_n C (pc := 29) dX9_isOrder_29 rfl 2 rfl ?_
    refine r_iconst C (pc := 30) dX9_isOrder_30 ?_
    refine r_aload_n C (pc := 31) dX9_isOrder_31 rfl 0 rfl ?_
    refine r_get C (pc := 32) dX9_isOrder_32 gf_X9_isOrder_68 0 rfl rfl ?_
    refine r_iload C (pc := 35) dX9_isOrder_35 3 rfl ?_
    refine r_iald C (pc := 37) dX9_isOrder_37 h 1 rfl (fun h => ?_)
    refine r_ishl C (pc := 38) dX9_isOrder_38 ?_
    refine r_ior C (pc := 39) dX9_isOrder_39 ?_
    refine r_let h (fun x40 h => ?_)
    refine r_istore_n C (pc := 40) dX9_isOrder_40 rfl (by decide) (L' := [(0, .ref (q 35)), (2, .int (jz v2_7)), (3, .int (jz x40)), (4, .int (jz v4_7))]) rfl ?_
    refine r_iload_n C (pc := 41) dX9_isOrder_41 rfl 1 rfl ?_
    refine r_aload_n C (pc := 42) dX9_isOrder_42 rfl 0 rfl ?_
    refine r_get C (pc := 43) dX9_isOrder_43 gf_X9_isOrder_9 0 rfl rfl ?_
    refine r_idiv C (pc := 46) dX9_isOrder_46 h (fun h => ?_)
    refine r_let h (fun x47 h => ?_)
    refine r_istore_n C (pc := 47) dX9_isOrder_47 rfl (by decide) (L' := [(0, .ref (q 35)), (2, .int (jz x47)), (3, .int (jz x40)), (4, .int (jz v4_7))]) rfl ?_
    refine r_iinc C (pc := 48) dX9_isOrder_48 3 rfl (by decide) (L' := [(0, .ref (q 35)), (2, .int (jz x47)), (3, .int (jz x40)), (4, .int (jz (v4_7 + 1)))]) rfl ?_
    refine r_goto C (pc := 51) 7 dX9_isOrder_51 rfl ?_
    exact hn7 x47 x40 (v4_7 + 1) (up this_order_7 (ix v4_7) x28) h
theorem c_X9_isOrder (l : Launch) (G : gG) (q : Nat → Nat) (F : Nat → Int) (c_this_order : Nat → Int) (p1 : Int) (r : Int) (o0 : Nat → Int) (hf : f_X9_isOrder p1 (F 0) c_this_order = some (r, o0)) : CTi l yX9_isOrder wsX9_isOrder rm_X9_isOrder G (w_X9_isOrder G q F c_this_order) [.ref (q 35), .int (jz p1)] (jz r) (w_X9_isOrder G q F o0) := CTi_of (by decide) rfl rfl (Nat.le_of_ble_eq_true rfl) (fun g C hG hl hF => by
    subst hG
    subst hl
    exact k_X9_isOrder C q F c_this_order p1 (fun x => x = (r, o0)) (fun r' o0' e => by cases e; exact hF) ⟨_, hf, rfl⟩)

-- TightHullsModel.round()I
def f_X9_round (m_points : Int) (c_this_far : Nat → Int) (c_this_order : Nat → Int) : Option (Int × (Nat → Int)) := lq3 (fun (n4 : Int → Int → (Nat → Int) → Option (Int × (Nat → Int))) (v1_4 : Int) (v2_4 : Int) (this_order_4 : Nat → Int) => bd1 (f_X9_orders m_points) (fun r6 => if ltI v2_4 r6 = true then (bd2 (f_X9_isOrder v2_4 m_points this_order_4) (fun r14 this_order_14 => jn (fun (v1_101 : Int) => n4 v1_101 (v2_4 + 1) this_order_14) (fun (k101 : Int → Option (Int × (Nat → Int))) => if eqI r14 0 = true then (k101 v1_4) else (grd (iin (m_points - 1) 5) (grd (iin 0 5) (bd1 (f_X9_d (this_order_14 (ix (m_points - 1))) (this_order_14 (ix 0)) c_this_far) (fun r41 => lq2 (fun (n48 : Int → Int → Option (Int × (Nat → Int))) (v3_48 : Int) (v4_48 : Int) => if ltI v4_48 m_points = true then (grd (iin (v4_48 - 1) 5) (grd (iin v4_48 5) (bd1 (f_X9_d (this_order_14 (ix (v4_48 - 1))) (this_order_14 (ix v4_48)) c_this_far) (fun r75 => lv ((v3_48 + r75)) (fun x79 => n48 x79 (v4_48 + 1)))))) else (jn (fun (s0_100 : Int) => k101 s0_100) (fun (k100 : Int → Option (Int × (Nat → Int))) => jn (k100 v3_48) (fun (k95 : Option (Int × (Nat → Int))) => if ltI v1_4 0 = true then k95 else (if ltI v3_48 v1_4 = true then k95 else (k100 v1_4)))))) 3300 r41 1))))))) else (some (v1_4, this_order_4)))) 3300 (-1) 0 c_this_order
abbrev rm_X9_round : Room := { frames := 1, cells := 0, slots := 0, locals := 24 }
abbrev w_X9_round (G : gG) (q : Nat → Nat) (F : Nat → Int) (c_this_far : Nat → Int) (c_this_order : Nat → Int) : va_W := [((q 35), oX9 F q), ((q 1), aI G 25 c_this_far), ((q 22), aI G 5 c_this_order)]
theorem hd_X9_round : yX9_round.cls = RX9 ∧ yX9_round.cls ≠ "java/lang/invoke/MethodHandle" ∧ yX9_round.cls ≠ "java/lang/invoke/VarHandle" ∧ (parseMethodDescriptor yX9_round.desc).map (fun d => d.parameters.length) = some 0 := by decide +kernel
theorem in_X9_round_X9 : ∀ w ∈ u_ws RX9 TX9 35, w ∈ wsX9_round := fun w h => List.mem_cons_of_mem _ (List.mem_append_right _ (h))
theorem gf_X9_round_68 : GF wsX9_round RX9 68 8 22 := ⟨RX9, TX9, 35, rfl, in_X9_round_X9, by decide, List.mem_of_getElem? (i := 1) rfl⟩
theorem gf_X9_round_9 : GF wsX9_round RX9 9 8 0 := ⟨RX9, TX9, 35, rfl, in_X9_round_X9, by decide, List.mem_of_getElem? (i := 2) rfl⟩
set_option maxRecDepth 100000 in
set_option maxHeartbeats 4000000 in
theorem k_X9_round {g : XC} (C : XOk g cX9_round RX9 wsX9_round rm_X9_round 5) (q : Nat → Nat) (F : Nat → Int) (c_this_far : Nat → Int) (c_this_order : Nat → Int)  (K : (Int × (Nat → Int)) → Prop) (hK : ∀ (r : Int) (o0 : Nat → Int), K (r, o0) → (narrow .int (.int (jz r)) = .int (jz r) → FinI g 0 0 (w_X9_round (xG g) q F c_this_far o0) (jz r))) (h : wp (f_X9_round (F 0) c_this_far c_this_order) K) : WW g 0 0 (w_X9_round (xG g) q F c_this_far c_this_order) 0 [(0, .ref (q 35))] [] := by
  unfold f_X9_round at h
  refine r_iconst C (pc := 0) dX9_round_0 ?_
  refine r_istore_n C (pc := 1) dX9_round_1 rfl (by decide) (L' := [(0, .ref (q 35)), (1, .int (jz (-1)))]) rfl ?_
  refine r_iconst C (pc := 2) dX9_round_2 ?_
  refine r_istore_n C (pc := 3) dX9_round_3 rfl (by decide) (L' := [(0, .ref (q 35)), (1, .int (jz (-1))), (2, .int (jz 0))]) rfl ?_
  refine lq3_e (fun (v1_4 : Int) (v2_4 : Int) (this_order_4 : Nat → Int) => WW g 0 0 (w_X9_round (xG g) q F c_this_far this_order_4) 4 [(0, .ref (q 35)), (1, .int (jz v1_4)), (2, .int (jz v2_4))] []) h (fun n4 hn4 v1_4 v2_4 this_order_4 h => ?_)
  refine r_iload_n C (pc := 4) dX9_round_4 rfl 2 rfl ?_
  refine r_aload_n C (pc := 5) dX9_round_5 rfl 0 rfl ?_
  obtain ⟨r6, e6, h⟩ := wp_b1 h
  refine b_cVi C (pc := 6) dX9_round_6 (c_X9_orders (xl g) (xG g) q F r6 e6) rfl gX9_round_X9_orders ⟨rfl, rfl⟩ 0 hd_X9_orders ⟨Nat.le_of_ble_eq_true rfl, Nat.le_of_ble_eq_true rfl⟩ rfl 0 rfl rfl rfl [0] rfl (srt_nd 0 rfl) (ws' := w_X9_round (xG g) q F c_this_far this_order_4) (Put.m rfl rfl rfl) rfl (rest := [.int (jz v2_4)]) rfl (Nat.le_of_ble_eq_true rfl) ⟨Nat.zero_le _, Nat.zero_le _⟩ ?_
  refine r_icmp_ge C (pc := 9) 107 dX9_round_9 rfl h (fun c9 h => ?_) (fun c9 h => ?_)
  · refine r_iload_n C (pc := 107) dX9_round_107 rfl 1 rfl ?_
    exact r_iret C (pc := 108) dX9_round_108 (hK v1_4 this_order_4 (wp_s h) rfl)
  · refine r_aload_n C (pc := 12) dX9_round_12 rfl 0 rfl ?_
    refine r_iload_n C (pc := 13) dX9_round_13 rfl 2 rfl ?_
    obtain ⟨r14, this_order_14, e14, h⟩ := wp_b2 h
    refine b_cVi C (pc := 14) dX9_round_14 (c_X9_isOrder (xl g) (xG g) q F this_order_4 v2_4 r14 this_order_14 e14) rfl gX9_round_X9_isOrder ⟨rfl, rfl⟩ 1 hd_X9_isOrder ⟨Nat.le_of_ble_eq_true rfl, Nat.le_of_ble_eq_true rfl⟩ rfl 0 rfl rfl rfl [0, 2] rfl (srt_nd 0 rfl) (ws' := w_X9_round (xG g) q F c_this_far this_order_14) (Put.m rfl rfl rfl) rfl (rest := []) rfl (Nat.le_of_ble_eq_true rfl) ⟨Nat.zero_le _, Nat.zero_le _⟩ ?_
    refine jn_e (fun (k101 : Int → Option (Int × (Nat → Int))) => ∀ (v1_101 : Int), wp (k101 v1_101) K → WW g 0 0 (w_X9_round (xG g) q F c_this_far this_order_14) 101 [(0, .ref (q 35)), (1, .int (jz v1_101)), (2, .int (jz v2_4))] []) h (fun v1_101 h => ?_) (fun k101 hk101 h => ?_)
    · refine r_iinc C (pc := 101) dX9_round_101 2 rfl (by decide) (L' := [(0, .ref (q 35)), (1, .int (jz v1_101)), (2, .int (jz (v2_4 + 1)))]) rfl ?_
      refine r_goto C (pc := 104) 4 dX9_round_104 rfl ?_
      exact hn4 v1_101 (v2_4 + 1) this_order_14 h
    · refine r_if_ne C (pc := 17) 23 dX9_round_17 rfl h (fun c17 h => ?_) (fun c17 h => ?_)
      · refine r_aload_n C (pc := 23) dX9_round_23 rfl 0 rfl ?_
        refine r_aload_n C (pc := 24) dX9_round_24 rfl 0 rfl ?_
        refine r_get C (pc := 25) dX9_round_25 gf_X9_round_68 0 rfl rfl ?_
        refine r_aload_n C (pc := 28) dX9_round_28 rfl 0 rfl ?_
        refine r_get C (pc := 29) dX9_round_29 gf_X9_round_9 0 rfl rfl ?_
        refine r_iconst C (pc := 32) dX9_round_32 ?_
        refine r_isub C (pc := 33) dX9_round_33 ?_
        refine r_iald C (pc := 34) dX9_round_34 h 2 rfl (fun h => ?_)
        refine r_aload_n C (pc := 35) dX9_round_35 rfl 0 rfl ?_
        refine r_get C (pc := 36) dX9_round_36 gf_X9_round_68 0 rfl rfl ?_
        refine r_iconst C (pc := 39) dX9_round_39 ?_
        refine r_iald C (pc := 40) dX9_round_40 h 2 rfl (fun h => ?_)
        obtain ⟨r41, e41, h⟩ := wp_b1 h
        refine b_cVi C (pc := 41) dX9_round_41 (c_X9_d (xl g) (xG g) q F c_this_far (this_order_14 (ix ((F 0) - 1))) (this_order_14 (ix 0)) r41 e41) rfl gX9_round_X9_d ⟨rfl, rfl⟩ 2 hd_X9_d ⟨Nat.le_of_ble_eq_true rfl, Nat.le_of_ble_eq_true rfl⟩ rfl 0 rfl rfl rfl [0, 1] rfl (srt_nd 0 rfl) (ws' := w_X9_round (xG g) q F c_this_far this_order_14) (Put.m rfl rfl rfl) rfl (rest := []) rfl (Nat.le_of_ble_eq_true rfl) ⟨Nat.zero_le _, Nat.zero_le _⟩ ?_
        refine r_istore_n C (pc := 44) dX9_round_44 rfl (by decide) (L' := [(0, .ref (q 35)), (1, .int (jz v1_4)), (2, .int (jz v2_4)), (3, .int (jz r41))]) rfl ?_
        refine r_iconst C (pc := 45) dX9_round_45 ?_
        refine r_istore C (pc := 46) dX9_round_46 (by decide) (L' := [(0, .ref (q 35)), (1, .int (jz v1_4)), (2, .int (jz v2_4)), (3, .int (jz r41)), (4, .int (jz 1))]) rfl ?_
        refine lq2_e (fun (v3_48 : Int) (v4_48 : Int) => WW g 0 0 (w_X9_round (xG g) q F c_this_far this_order_14) 48 [(0, .ref (q 35)), (1, .int (jz v1_4)), (2, .int (jz v2_4)), (3, .int (jz v3_48)), (4, .int (jz v4_48))] []) h (fun n48 hn48 v3_48 v4_48 h => ?_)
        refine r_iload C (pc := 48) dX9_round_48 4 rfl ?_
        refine r_aload_n C (pc := 50) dX9_round_50 rfl 0 rfl ?_
        refine r_get C (pc := 51) dX9_round_51 gf_X9_round_9 0 rfl rfl ?_
        refine r_icmp_ge C (pc := 54) 86 dX9_round_54 rfl h (fun c54 h => ?_) (fun c54 h => ?_)
        · refine r_iload_n C (pc := 86) dX9_round_86 rfl 1 rfl ?_
          refine jn_e (fun (k100 : Int → Option (Int × (Nat → Int))) => ∀ (s0_100 : Int), wp (k100 s0_100) K → WW g 0 0 (w_X9_round (xG g) q F c_this_far this_order_14) 100 [(0, .ref (q 35)), (2, .int (jz v2_4))] [.int (jz s0_100)]) h (fun s0_100 h => ?_) (fun k100 hk100 h => ?_)
          · refine r_istore_n C (pc := 100) dX9_round_100 rfl (by decide) (L' := [(0, .ref (q 35)), (1, .int (jz s0_100)), (2, .int (jz v2_4))]) rfl ?_
            exact hk101 s0_100 h
          · refine jn_e (fun (k95 : Option (Int × (Nat → Int))) => wp (k95) K → WW g 0 0 (w_X9_round (xG g) q F c_this_far this_order_14) 95 [(0, .ref (q 35)), (2, .int (jz v2_4)), (3, .int (jz v3_48))] []) h (fun h => ?_) (fun k95 hk95 h => ?_)
            · refine r_iload_n C (pc := 95) dX9_round_95 rfl 2 rfl ?_
              refine r_goto C (pc := 96) 100 dX9_round_96 rfl ?_
              refine r_sub [0, 1] rfl ?_
              exact hk100 v3_48 h
            · refine r_if_lt C (pc := 87) 95 dX9_round_87 rfl h (fun c87 h => ?_) (fun c87 h => ?_)
              · refine r_sub [0, 2, 3] rfl ?_
                exact hk95 h
              · refine r_iload_n C (pc := 90) dX9_round_90 rfl 3 rfl ?_
                refine r_iload_n C (pc := 91) dX9_round_91 rfl 1 rfl ?_
                refine r_icmp_ge C (pc := 92) 99 dX9_round_92 rfl h (fun c92 h => ?_) (fun c92 h => ?_)
                · refine r_iload_n C (pc := 99) dX9_round_99 rfl 1 rfl ?_
                  refine r_sub [0, 2] rfl ?_
                  exact hk100 v1_4 h
                · refine r_sub [0, 2, 3] rfl ?_
                  exact hk95 h
        · refine r_iload_n C (pc := 57) dX9_round_57 rfl 3 rfl ?_
          refine r_aload_n C (pc := 58) dX9_round_58 rfl 0 rfl ?_
          refine r_aload_n C (pc := 59) dX9_round_59 rfl 0 rfl ?_
          refine r_get C (pc := 60) dX9_round_60 gf_X9_round_68 0 rfl rfl ?_
          refine r_iload C (pc := 63) dX9_round_63 4 rfl ?_
          refine r_iconst C (pc := 65) dX9_round_65 ?_
          refine r_isub C (pc := 66) dX9_round_66 ?_
          refine r_iald C (pc := 67) dX9_round_67 h 2 rfl (fun h => ?_)
          refine r_aload_n C (pc := 68) dX9_round_68 rfl 0 rfl ?_
          refine r_get C (pc := 69) dX9_round_69 gf_X9_round_68 0 rfl rfl ?_
          refine r_iload C (pc := 72) dX9_round_72 4 rfl ?_
          refine r_iald C (pc := 74) dX9_round_74 h 2 rfl (fun h => ?_)
          obtain ⟨r75, e75, h⟩ := wp_b1 h
          refine b_cVi C (pc := 75) dX9_round_75 (c_X9_d (xl g) (xG g) q F c_this_far (this_order_14 (ix (v4_48 - 1))) (this_order_14 (ix v4_48)) r75 e75) rfl gX9_round_X9_d ⟨rfl, rfl⟩ 2 hd_X9_d ⟨Nat.le_of_ble_eq_true rfl, Nat.le_of_ble_eq_true rfl⟩ rfl 0 rfl rfl rfl [0, 1] rfl (srt_nd 0 rfl) (ws' := w_X9_round (xG g) q F c_this_far this_order_14) (Put.m rfl rfl rfl) rfl (rest := [.int (jz v3_48)]) rfl (Nat.le_of_ble_eq_true rfl) ⟨Nat.zero_le _, Nat.zero_le _⟩ ?_
          refine r_iadd C (pc := 78) dX9_round_78 ?_
          refine r_let h (fun x79 h => ?_)
          refine r_istore_n C (pc := 79) dX9_round_79 rfl (by decide) (L' := [(0, .ref (q 35)), (1, .int (jz v1_4)), (2, .int (jz v2_4)), (3, .int (jz x79)), (4, .int (jz v4_48))]) rfl ?_
          refine r_iinc C (pc := 80) dX9_round_80 4 rfl (by decide) (L' := [(0, .ref (q 35)), (1, .int (jz v1_4)), (2, .int (jz v2_4)), (3, .int (jz x79)), (4, .int (jz (v4_48 + 1)))]) rfl ?_
          refine r_goto C (pc := 83) 48 dX9_round_83 rfl ?_
          exact hn48 x79 (v4_48 + 1) h
      · refine r_goto C (pc := 20) 101 dX9_round_20 rfl ?_
        exact hk101 v1_4 h
theorem c_X9_round (l : Launch) (G : gG) (q : Nat → Nat) (F : Nat → Int) (c_this_far : Nat → Int) (c_this_order : Nat → Int) (r : Int) (o0 : Nat → Int) (hf : f_X9_round (F 0) c_this_far c_this_order = some (r, o0)) : CTi l yX9_round wsX9_round rm_X9_round G (w_X9_round G q F c_this_far c_this_order) [.ref (q 35)] (jz r) (w_X9_round G q F c_this_far o0) := CTi_of (by decide) rfl rfl (Nat.le_of_ble_eq_true rfl) (fun g C hG hl hF => by
    subst hG
    subst hl
    exact k_X9_round C q F c_this_far c_this_order (fun x => x = (r, o0)) (fun r' o0' e => by cases e; exact hF) ⟨_, hf, rfl⟩)

-- TightHullsModel.keepers()I
def f_X9_keepers (m_points : Int) (c_this_far : Nat → Int) (c_this_order : Nat → Int) : Option (Int × (Nat → Int)) := lq3 (fun (n4 : Int → Int → (Nat → Int) → Option (Int × (Nat → Int))) (v1_4 : Int) (v2_4 : Int) (this_order_4 : Nat → Int) => bd1 (f_X9_orders m_points) (fun r6 => if ltI v2_4 r6 = true then (bd2 (f_X9_isOrder v2_4 m_points this_order_4) (fun r14 this_order_14 => lq2 (fun (n21 : Int → Int → Option (Int × (Nat → Int))) (v3_21 : Int) (v4_21 : Int) => jn (jn (fun (s1_105 : Int) => lv ((v1_4 + s1_105)) (fun x106 => n4 x106 (v2_4 + 1) this_order_14)) (fun (k105 : Int → Option (Int × (Nat → Int))) => if eqI v3_21 0 = true then (k105 0) else (k105 1))) (fun (k95 : Option (Int × (Nat → Int))) => if ltI v4_21 m_points = true then (if eqI v3_21 0 = true then k95 else (lq2 (fun (n37 : Int → Int → Option (Int × (Nat → Int))) (v3_37 : Int) (v5_37 : Int) => if ltI v5_37 v4_21 = true then (jn (fun (s0_82 : Int) => n37 s0_82 (v5_37 + 1)) (fun (k82 : Int → Option (Int × (Nat → Int))) => jn (k82 0) (fun (k81 : Option (Int × (Nat → Int))) => if eqI v3_37 0 = true then k81 else (grd (iin v4_21 5) (grd (iin v5_37 5) (bd1 (f_X9_d (this_order_14 (ix v4_21)) (this_order_14 (ix v5_37)) c_this_far) (fun r63 => bd1 (f_X9_d v4_21 v5_37 c_this_far) (fun r71 => if eqI r63 r71 = true then (k82 1) else k81)))))))) else (n21 v3_37 (v4_21 + 1))) 3300 v3_21 0)) else k95)) 3300 r14 0)) else (some (v1_4, this_order_4)))) 3300 0 0 c_this_order
abbrev rm_X9_keepers : Room := { frames := 1, cells := 0, slots := 0, locals := 24 }
abbrev w_X9_keepers (G : gG) (q : Nat → Nat) (F : Nat → Int) (c_this_far : Nat → Int) (c_this_order : Nat → Int) : va_W := [((q 35), oX9 F q), ((q 1), aI G 25 c_this_far), ((q 22), aI G 5 c_this_order)]
theorem hd_X9_keepers : yX9_keepers.cls = RX9 ∧ yX9_keepers.cls ≠ "java/lang/invoke/MethodHandle" ∧ yX9_keepers.cls ≠ "java/lang/invoke/VarHandle" ∧ (parseMethodDescriptor yX9_keepers.desc).map (fun d => d.parameters.length) = some 0 := by decide +kernel
theorem in_X9_keepers_X9 : ∀ w ∈ u_ws RX9 TX9 35, w ∈ wsX9_keepers := fun w h => List.mem_cons_of_mem _ (List.mem_append_right _ (h))
theorem gf_X9_keepers_9 : GF wsX9_keepers RX9 9 8 0 := ⟨RX9, TX9, 35, rfl, in_X9_keepers_X9, by decide, List.mem_of_getElem? (i := 1) rfl⟩
theorem gf_X9_keepers_68 : GF wsX9_keepers RX9 68 8 22 := ⟨RX9, TX9, 35, rfl, in_X9_keepers_X9, by decide, List.mem_of_getElem? (i := 2) rfl⟩
set_option maxRecDepth 100000 in
set_option maxHeartbeats 4000000 in
theorem k_X9_keepers {g : XC} (C : XOk g cX9_keepers RX9 wsX9_keepers rm_X9_keepers 6) (q : Nat → Nat) (F : Nat → Int) (c_this_far : Nat → Int) (c_this_order : Nat → Int)  (K : (Int × (Nat → Int)) → Prop) (hK : ∀ (r : Int) (o0 : Nat → Int), K (r, o0) → (narrow .int (.int (jz r)) = .int (jz r) → FinI g 0 0 (w_X9_keepers (xG g) q F c_this_far o0) (jz r))) (h : wp (f_X9_keepers (F 0) c_this_far c_this_order) K) : WW g 0 0 (w_X9_keepers (xG g) q F c_this_far c_this_order) 0 [(0, .ref (q 35))] [] := by
  unfold f_X9_keepers at h
  refine r_iconst C (pc := 0) dX9_keepers_0 ?_
  refine r_istore_n C (pc := 1) dX9_keepers_1 rfl (by decide) (L' := [(0, .ref (q 35)), (1, .int (jz 0))]) rfl ?_
  refine r_iconst C (pc := 2) dX9_keepers_2 ?_
  refine r_istore_n C (pc := 3) dX9_keepers_3 rfl (by decide) (L' := [(0, .ref (q 35)), (1, .int (jz 0)), (2, .int (jz 0))]) rfl ?_
  refine lq3_e (fun (v1_4 : Int) (v2_4 : Int) (this_order_4 : Nat → Int) => WW g 0 0 (w_X9_keepers (xG g) q F c_this_far this_order_4) 4 [(0, .ref (q 35)), (1, .int (jz v1_4)), (2, .int (jz v2_4))] []) h (fun n4 hn4 v1_4 v2_4 this_order_4 h => ?_)
  refine r_iload_n C (pc := 4) dX9_keepers_4 rfl 2 rfl ?_
  refine r_aload_n C (pc := 5) dX9_keepers_5 rfl 0 rfl ?_
  obtain ⟨r6, e6, h⟩ := wp_b1 h
  refine b_cVi C (pc := 6) dX9_keepers_6 (c_X9_orders (xl g) (xG g) q F r6 e6) rfl gX9_keepers_X9_orders ⟨rfl, rfl⟩ 0 hd_X9_orders ⟨Nat.le_of_ble_eq_true rfl, Nat.le_of_ble_eq_true rfl⟩ rfl 0 rfl rfl rfl [0] rfl (srt_nd 0 rfl) (ws' := w_X9_keepers (xG g) q F c_this_far this_order_4) (Put.m rfl rfl rfl) rfl (rest := [.int (jz v2_4)]) rfl (Nat.le_of_ble_eq_true rfl) ⟨Nat.zero_le _, Nat.zero_le _⟩ ?_
  refine r_icmp_ge C (pc := 9) 113 dX9_keepers_9 rfl h (fun c9 h => ?_) (fun c9 h => ?_)
  · refine r_iload_n C (pc := 113) dX9_keepers_113 rfl 1 rfl ?_
    exact r_iret C (pc := 114) dX9_keepers_114 (hK v1_4 this_order_4 (wp_s h) rfl)
  · refine r_aload_n C (pc := 12) dX9_keepers_12 rfl 0 rfl ?_
    refine r_iload_n C (pc := 13) dX9_keepers_13 rfl 2 rfl ?_
    obtain ⟨r14, this_order_14, e14, h⟩ := wp_b2 h
    refine b_cVi C (pc := 14) dX9_keepers_14 (c_X9_isOrder (xl g) (xG g) q F this_order_4 v2_4 r14 this_order_14 e14) rfl gX9_keepers_X9_isOrder ⟨rfl, rfl⟩ 1 hd_X9_isOrder ⟨Nat.le_of_ble_eq_true rfl, Nat.le_of_ble_eq_true rfl⟩ rfl 0 rfl rfl rfl [0, 2] rfl (srt_nd 0 rfl) (ws' := w_X9_keepers (xG g) q F c_this_far this_order_14) (Put.m rfl rfl rfl) rfl (rest := []) rfl (Nat.le_of_ble_eq_true rfl) ⟨Nat.zero_le _, Nat.zero_le _⟩ ?_
    refine r_istore_n C (pc := 17) dX9_keepers_17 rfl (by decide) (L' := [(0, .ref (q 35)), (1, .int (jz v1_4)), (2, .int (jz v2_4)), (3, .int (jz r14))]) rfl ?_
    refine r_iconst C (pc := 18) dX9_keepers_18 ?_
    refine r_istore C (pc := 19) dX9_keepers_19 (by decide) (L' := [(0, .ref (q 35)), (1, .int (jz v1_4)), (2, .int (jz v2_4)), (3, .int (jz r14)), (4, .int (jz 0))]) rfl ?_
    refine lq2_e (fun (v3_21 : Int) (v4_21 : Int) => WW g 0 0 (w_X9_keepers (xG g) q F c_this_far this_order_14) 21 [(0, .ref (q 35)), (1, .int (jz v1_4)), (2, .int (jz v2_4)), (3, .int (jz v3_21)), (4, .int (jz v4_21))] []) h (fun n21 hn21 v3_21 v4_21 h => ?_)
    refine r_iload C (pc := 21) dX9_keepers_21 4 rfl ?_
    refine r_aload_n C (pc := 23) dX9_keepers_23 rfl 0 rfl ?_
    refine r_get C (pc := 24) dX9_keepers_24 gf_X9_keepers_9 0 rfl rfl ?_
    refine jn_e (fun (k95 : Option (Int × (Nat → Int))) => wp (k95) K → WW g 0 0 (w_X9_keepers (xG g) q F c_this_far this_order_14) 95 [(0, .ref (q 35)), (1, .int (jz v1_4)), (2, .int (jz v2_4)), (3, .int (jz v3_21))] []) h (fun h => ?_) (fun k95 hk95 h => ?_)
    · refine r_iload_n C (pc := 95) dX9_keepers_95 rfl 1 rfl ?_
      refine r_iload_n C (pc := 96) dX9_keepers_96 rfl 3 rfl ?_
      refine jn_e (fun (k105 : Int → Option (Int × (Nat → Int))) => ∀ (s1_105 : Int), wp (k105 s1_105) K → WW g 0 0 (w_X9_keepers (xG g) q F c_this_far this_order_14) 105 [(0, .ref (q 35)), (2, .int (jz v2_4))] [.int (jz s1_105), .int (jz v1_4)]) h (fun s1_105 h => ?_) (fun k105 hk105 h => ?_)
      · refine r_iadd C (pc := 105) dX9_keepers_105 ?_
        refine r_let h (fun x106 h => ?_)
        refine r_istore_n C (pc := 106) dX9_keepers_106 rfl (by decide) (L' := [(0, .ref (q 35)), (1, .int (jz x106)), (2, .int (jz v2_4))]) rfl ?_
        refine r_iinc C (pc := 107) dX9_keepers_107 2 rfl (by decide) (L' := [(0, .ref (q 35)), (1, .int (jz x106)), (2, .int (jz (v2_4 + 1)))]) rfl ?_
        refine r_goto C (pc := 110) 4 dX9_keepers_110 rfl ?_
        exact hn4 x106 (v2_4 + 1) this_order_14 h
      · refine r_if_eq C (pc := 97) 104 dX9_keepers_97 rfl h (fun c97 h => ?_) (fun c97 h => ?_)
        · refine r_iconst C (pc := 104) dX9_keepers_104 ?_
          refine r_sub [0, 2] rfl ?_
          exact hk105 0 h
        · refine r_iconst C (pc := 100) dX9_keepers_100 ?_
          refine r_goto C (pc := 101) 105 dX9_keepers_101 rfl ?_
          refine r_sub [0, 2] rfl ?_
          exact hk105 1 h
    · refine r_icmp_ge C (pc := 27) 95 dX9_keepers_27 rfl h (fun c27 h => ?_) (fun c27 h => ?_)
      · refine r_sub [0, 1, 2, 3] rfl ?_
        exact hk95 h
      · refine r_iload_n C (pc := 30) dX9_keepers_30 rfl 3 rfl ?_
        refine r_if_eq C (pc := 31) 95 dX9_keepers_31 rfl h (fun c31 h => ?_) (fun c31 h => ?_)
        · refine r_sub [0, 1, 2, 3] rfl ?_
          exact hk95 h
        · refine r_iconst C (pc := 34) dX9_keepers_34 ?_
          refine r_istore C (pc := 35) dX9_keepers_35 (by decide) (L' := [(0, .ref (q 35)), (1, .int (jz v1_4)), (2, .int (jz v2_4)), (3, .int (jz v3_21)), (4, .int (jz v4_21)), (5, .int (jz 0))]) rfl ?_
          refine lq2_e (fun (v3_37 : Int) (v5_37 : Int) => WW g 0 0 (w_X9_keepers (xG g) q F c_this_far this_order_14) 37 [(0, .ref (q 35)), (1, .int (jz v1_4)), (2, .int (jz v2_4)), (3, .int (jz v3_37)), (4, .int (jz v4_21)), (5, .int (jz v5_37))] []) h (fun n37 hn37 v3_37 v5_37 h => ?_)
          refine r_iload C (pc := 37) dX9_keepers_37 5 rfl ?_
          refine r_iload C (pc := 39) dX9_keepers_39 4 rfl ?_
          refine r_icmp_ge C (pc := 41) 89 dX9_keepers_41 rfl h (fun c41 h => ?_) (fun c41 h => ?_)
          · refine r_iinc C (pc := 89) dX9_keepers_89 4 rfl (by decide) (L' := [(0, .ref (q 35)), (1, .int (jz v1_4)), (2, .int (jz v2_4)), (3, .int (jz v3_37)), (4, .int (jz (v4_21 + 1))), (5, .int (jz v5_37))]) rfl ?_
            refine r_goto C (pc := 92) 21 dX9_keepers_92 rfl ?_
            refine r_sub [0, 1, 2, 3, 4] rfl ?_
            exact hn21 v3_37 (v4_21 + 1) h
          · refine r_iload_n C (pc := 44) dX9_keepers_44 rfl 3 rfl ?_
            refine jn_e (fun (k82 : Int → Option (Int × (Nat → Int))) => ∀ (s0_82 : Int), wp (k82 s0_82) K → WW g 0 0 (w_X9_keepers (xG g) q F c_this_far this_order_14) 82 [(0, .ref (q 35)), (1, .int (jz v1_4)), (2, .int (jz v2_4)), (4, .int (jz v4_21)), (5, .int (jz v5_37))] [.int (jz s0_82)]) h (fun s0_82 h => ?_) (fun k82 hk82 h => ?_)
            · refine r_istore_n C (pc := 82) dX9_keepers_82 rfl (by decide) (L' := [(0, .ref (q 35)), (1, .int (jz v1_4)), (2, .int (jz v2_4)), (3, .int (jz s0_82)), (4, .int (jz v4_21)), (5, .int (jz v5_37))]) rfl ?_
              refine r_iinc C (pc := 83) dX9_keepers_83 5 rfl (by decide) (L' := [(0, .ref (q 35)), (1, .int (jz v1_4)), (2, .int (jz v2_4)), (3, .int (jz s0_82)), (4, .int (jz v4_21)), (5, .int (jz (v5_37 + 1)))]) rfl ?_
              refine r_goto C (pc := 86) 37 dX9_keepers_86 rfl ?_
              exact hn37 s0_82 (v5_37 + 1) h
            · refine jn_e (fun (k81 : Option (Int × (Nat → Int))) => wp (k81) K → WW g 0 0 (w_X9_keepers (xG g) q F c_this_far this_order_14) 81 [(0, .ref (q 35)), (1, .int (jz v1_4)), (2, .int (jz v2_4)), (4, .int (jz v4_21)), (5, .int (jz v5_37))] []) h (fun h => ?_) (fun k81 hk81 h => ?_)
              · refine r_iconst C (pc := 81) dX9_keepers_81 ?_
                exact hk82 0 h
              · refine r_if_eq C (pc := 45) 81 dX9_keepers_45 rfl h (fun c45 h => ?_) (fun c45 h => ?_)
                · refine r_sub [0, 1, 2, 4, 5] rfl ?_
                  exact hk81 h
                · refine r_aload_n C (pc := 48) dX9_keepers_48 rfl 0 rfl ?_
                  refine r_aload_n C (pc := 49) dX9_keepers_49 rfl 0 rfl ?_
                  refine r_get C (pc := 50) dX9_keepers_50 gf_X9_keepers_68 0 rfl rfl ?_
                  refine r_iload C (pc := 53) dX9_keepers_53 4 rfl ?_
                  refine r_iald C (pc := 55) dX9_keepers_55 h 2 rfl (fun h => ?_)
                  refine r_aload_n C (pc := 56) dX9_keepers_56 rfl 0 rfl ?_
                  refine r_get C (pc := 57) dX9_keepers_57 gf_X9_keepers_68 0 rfl rfl ?_
                  refine r_iload C (pc := 60) dX9_keepers_60 5 rfl ?_
                  refine r_iald C (pc := 62) dX9_keepers_62 h 2 rfl (fun h => ?_)
                  obtain ⟨r63, e63, h⟩ := wp_b1 h
                  refine b_cVi C (pc := 63) dX9_keepers_63 (c_X9_d (xl g) (xG g) q F c_this_far (this_order_14 (ix v4_21)) (this_order_14 (ix v5_37)) r63 e63) rfl gX9_keepers_X9_d ⟨rfl, rfl⟩ 2 hd_X9_d ⟨Nat.le_of_ble_eq_true rfl, Nat.le_of_ble_eq_true rfl⟩ rfl 0 rfl rfl rfl [0, 1] rfl (srt_nd 0 rfl) (ws' := w_X9_keepers (xG g) q F c_this_far this_order_14) (Put.m rfl rfl rfl) rfl (rest := []) rfl (Nat.le_of_ble_eq_true rfl) ⟨Nat.zero_le _, Nat.zero_le _⟩ ?_
                  refine r_aload_n C (pc := 66) dX9_keepers_66 rfl 0 rfl ?_
                  refine r_iload C (pc := 67) dX9_keepers_67 4 rfl ?_
                  refine r_iload C (pc := 69) dX9_keepers_69 5 rfl ?_
                  obtain ⟨r71, e71, h⟩ := wp_b1 h
                  refine b_cVi C (pc := 71) dX9_keepers_71 (c_X9_d (xl g) (xG g) q F c_this_far v4_21 v5_37 r71 e71) rfl gX9_keepers_X9_d ⟨rfl, rfl⟩ 2 hd_X9_d ⟨Nat.le_of_ble_eq_true rfl, Nat.le_of_ble_eq_true rfl⟩ rfl 0 rfl rfl rfl [0, 1] rfl (srt_nd 0 rfl) (ws' := w_X9_keepers (xG g) q F c_this_far this_order_14) (Put.m rfl rfl rfl) rfl (rest := [.int (jz r63)]) rfl (Nat.le_of_ble_eq_true rfl) ⟨Nat.zero_le _, Nat.zero_le _⟩ ?_
                  refine r_icmp_ne C (pc := 74) 81 dX9_keepers_74 rfl h (fun c74 h => ?_) (fun c74 h => ?_)
                  · refine r_sub [0, 1, 2, 4, 5] rfl ?_
                    exact hk81 h
                  · refine r_iconst C (pc := 77) dX9_keepers_77 ?_
                    refine r_goto C (pc := 78) 82 dX9_keepers_78 rfl ?_
                    refine r_sub [0, 1, 2, 4, 5] rfl ?_
                    exact hk82 1 h
theorem c_X9_keepers (l : Launch) (G : gG) (q : Nat → Nat) (F : Nat → Int) (c_this_far : Nat → Int) (c_this_order : Nat → Int) (r : Int) (o0 : Nat → Int) (hf : f_X9_keepers (F 0) c_this_far c_this_order = some (r, o0)) : CTi l yX9_keepers wsX9_keepers rm_X9_keepers G (w_X9_keepers G q F c_this_far c_this_order) [.ref (q 35)] (jz r) (w_X9_keepers G q F c_this_far o0) := CTi_of (by decide) rfl rfl (Nat.le_of_ble_eq_true rfl) (fun g C hG hl hF => by
    subst hG
    subst hl
    exact k_X9_keepers C q F c_this_far c_this_order (fun x => x = (r, o0)) (fun r' o0' e => by cases e; exact hF) ⟨_, hf, rfl⟩)

-- TightHullsModel.isSplit(I)Z
def f_X9_isSplit (p1 : Int) (m_points : Int) : Option Int := bd1 (f_X9_in p1 2 ((shlI 1 m_points) - 2)) (fun r10 => jn (fun (s0_27 : Int) => grd (isB s0_27) (some s0_27)) (fun (k27 : Int → Option Int) => jn (k27 0) (fun (k26 : Option Int) => if eqI r10 0 = true then k26 else (grd (!(eqI 2 0)) (if eqI (remI p1 2) 0 = true then (k27 1) else k26)))))
abbrev rm_X9_isSplit : Room := { frames := 1, cells := 0, slots := 0, locals := 22 }
abbrev w_X9_isSplit (G : gG) (q : Nat → Nat) (F : Nat → Int) : va_W := [((q 35), oX9 F q)]
theorem hd_X9_isSplit : yX9_isSplit.cls = RX9 ∧ yX9_isSplit.cls ≠ "java/lang/invoke/MethodHandle" ∧ yX9_isSplit.cls ≠ "java/lang/invoke/VarHandle" ∧ (parseMethodDescriptor yX9_isSplit.desc).map (fun d => d.parameters.length) = some 1 := by decide +kernel
theorem in_X9_isSplit_X9 : ∀ w ∈ u_ws RX9 TX9 35, w ∈ wsX9_isSplit := fun w h => List.mem_cons_of_mem _ (List.mem_append_right _ (h))
theorem gf_X9_isSplit_9 : GF wsX9_isSplit RX9 9 8 0 := ⟨RX9, TX9, 35, rfl, in_X9_isSplit_X9, by decide, List.mem_of_getElem? (i := 1) rfl⟩
set_option maxRecDepth 100000 in
set_option maxHeartbeats 4000000 in
theorem k_X9_isSplit {g : XC} (C : XOk g cX9_isSplit RX9 wsX9_isSplit rm_X9_isSplit 2) (q : Nat → Nat) (F : Nat → Int) (p1 : Int) (K : Int → Prop) (hK : ∀ (r : Int), K r → (narrow .boolean (.int (jz r)) = .int (jz r) → FinI g 0 0 (w_X9_isSplit (xG g) q F) (jz r))) (h : wp (f_X9_isSplit p1 (F 0)) K) : WW g 0 0 (w_X9_isSplit (xG g) q F) 0 [(0, .ref (q 35)), (1, .int (jz p1))] [] := by
  unfold f_X9_isSplit at h
  refine r_iload_n C (pc := 0) dX9_isSplit_0 rfl 1 rfl ?_
  refine r_iconst C (pc := 1) dX9_isSplit_1 ?_
  refine r_iconst C (pc := 2) dX9_isSplit_2 ?_
  refine r_aload_n C (pc := 3) dX9_isSplit_3 rfl 0 rfl ?_
  refine r_get C (pc := 4) dX9_isSplit_4 gf_X9_isSplit_9 0 rfl rfl ?_
  refine r_ishl C (pc := 7) dX9_isSplit_7 ?_
  refine r_iconst C (pc := 8) dX9_isSplit_8 ?_
  refine r_isub C (pc := 9) dX9_isSplit_9 ?_
  obtain ⟨r10, e10, h⟩ := wp_b1 h
  refine b_cSi C (pc := 10) dX9_isSplit_10 (c_X9_in (xl g) (xG g) p1 2 ((shlI 1 (F 0)) - 2) r10 e10) rfl gX9_isSplit_X9_in ⟨rfl, rfl⟩ 3 hd_X9_in ⟨Nat.le_of_ble_eq_true rfl, Nat.le_of_ble_eq_true rfl⟩ rfl [] rfl (srt_nd 0 rfl) (ws' := w_X9_isSplit (xG g) q F) (Put.m rfl rfl rfl) rfl (rest := []) rfl (Nat.le_of_ble_eq_true rfl) ⟨Nat.zero_le _, Nat.zero_le _⟩ ?_
  refine jn_e (fun (k27 : Int → Option Int) => ∀ (s0_27 : Int), wp (k27 s0_27) K → WW g 0 0 (w_X9_isSplit (xG g) q F) 27 [] [.int (jz s0_27)]) h (fun s0_27 h => ?_) (fun k27 hk27 h => ?_)
  · exact r_iret C (pc := 27) dX9_isSplit_27 (hK s0_27 (wp_s (wp_g h).2) (nB (wp_g h).1).1)
  · refine jn_e (fun (k26 : Option Int) => wp (k26) K → WW g 0 0 (w_X9_isSplit (xG g) q F) 26 [] []) h (fun h => ?_) (fun k26 hk26 h => ?_)
    · refine r_iconst C (pc := 26) dX9_isSplit_26 ?_
      exact hk27 0 h
    · refine r_if_eq C (pc := 13) 26 dX9_isSplit_13 rfl h (fun c13 h => ?_) (fun c13 h => ?_)
      · refine r_sub [] rfl ?_
        exact hk26 h
      · refine r_iload_n C (pc := 16) dX9_isSplit_16 rfl 1 rfl ?_
        refine r_iconst C (pc := 17) dX9_isSplit_17 ?_
        refine r_irem C (pc := 18) dX9_isSplit_18 h (fun h => ?_)
        refine r_if_ne C (pc := 19) 26 dX9_isSplit_19 rfl h (fun c19 h => ?_) (fun c19 h => ?_)
        · refine r_sub [] rfl ?_
          exact hk26 h
        · refine r_iconst C (pc := 22) dX9_isSplit_22 ?_
          refine r_goto C (pc := 23) 27 dX9_isSplit_23 rfl ?_
          refine r_sub [] rfl ?_
          exact hk27 1 h
theorem c_X9_isSplit (l : Launch) (G : gG) (q : Nat → Nat) (F : Nat → Int) (p1 : Int) (r : Int) (hf : f_X9_isSplit p1 (F 0) = some r) : CTi l yX9_isSplit wsX9_isSplit rm_X9_isSplit G (w_X9_isSplit G q F) [.ref (q 35), .int (jz p1)] (jz r) (w_X9_isSplit G q F) := CTi_of (by decide) rfl rfl (Nat.le_of_ble_eq_true rfl) (fun g C hG hl hF => by
    subst hG
    subst hl
    exact k_X9_isSplit C q F p1 (fun x => x = r) (fun r' e => by cases e; exact hF) ⟨_, hf, rfl⟩)

-- TightHullsModel.isIn(III)Z
def f_X9_isIn (p1 : Int) (p2 : Int) (p3 : Int) : Option Int := jn (fun (s0_14 : Int) => grd (isB s0_14) (some s0_14)) (fun (k14 : Int → Option Int) => if eqI (andI (shrI p1 p2) 1) p3 = true then (k14 1) else (k14 0))
abbrev rm_X9_isIn : Room := { frames := 0, cells := 0, slots := 0, locals := 0 }
abbrev w_X9_isIn (G : gG) (q : Nat → Nat) (F : Nat → Int) : va_W := [((q 35), oX9 F q)]
theorem hd_X9_isIn : yX9_isIn.cls = RX9 ∧ yX9_isIn.cls ≠ "java/lang/invoke/MethodHandle" ∧ yX9_isIn.cls ≠ "java/lang/invoke/VarHandle" ∧ (parseMethodDescriptor yX9_isIn.desc).map (fun d => d.parameters.length) = some 3 := by decide +kernel
set_option maxRecDepth 100000 in
set_option maxHeartbeats 4000000 in
theorem k_X9_isIn {g : XC} (C : XOk g cX9_isIn RX9 wsX9_isIn rm_X9_isIn 4) (q : Nat → Nat) (F : Nat → Int) (p1 : Int) (p2 : Int) (p3 : Int) (K : Int → Prop) (hK : ∀ (r : Int), K r → (narrow .boolean (.int (jz r)) = .int (jz r) → FinI g 0 0 (w_X9_isIn (xG g) q F) (jz r))) (h : wp (f_X9_isIn p1 p2 p3) K) : WW g 0 0 (w_X9_isIn (xG g) q F) 0 [(0, .ref (q 35)), (1, .int (jz p1)), (2, .int (jz p2)), (3, .int (jz p3))] [] := by
  unfold f_X9_isIn at h
  refine r_iload_n C (pc := 0) dX9_isIn_0 rfl 1 rfl ?_
  refine r_iload_n C (pc := 1) dX9_isIn_1 rfl 2 rfl ?_
  refine r_ishr C (pc := 2) dX9_isIn_2 ?_
  refine r_iconst C (pc := 3) dX9_isIn_3 ?_
  refine r_iand C (pc := 4) dX9_isIn_4 ?_
  refine r_iload_n C (pc := 5) dX9_isIn_5 rfl 3 rfl ?_
  refine jn_e (fun (k14 : Int → Option Int) => ∀ (s0_14 : Int), wp (k14 s0_14) K → WW g 0 0 (w_X9_isIn (xG g) q F) 14 [] [.int (jz s0_14)]) h (fun s0_14 h => ?_) (fun k14 hk14 h => ?_)
  · exact r_iret C (pc := 14) dX9_isIn_14 (hK s0_14 (wp_s (wp_g h).2) (nB (wp_g h).1).1)
  · refine r_icmp_ne C (pc := 6) 13 dX9_isIn_6 rfl h (fun c6 h => ?_) (fun c6 h => ?_)
    · refine r_iconst C (pc := 13) dX9_isIn_13 ?_
      refine r_sub [] rfl ?_
      exact hk14 0 h
    · refine r_iconst C (pc := 9) dX9_isIn_9 ?_
      refine r_goto C (pc := 10) 14 dX9_isIn_10 rfl ?_
      refine r_sub [] rfl ?_
      exact hk14 1 h
theorem c_X9_isIn (l : Launch) (G : gG) (q : Nat → Nat) (F : Nat → Int) (p1 : Int) (p2 : Int) (p3 : Int) (r : Int) (hf : f_X9_isIn p1 p2 p3 = some r) : CTi l yX9_isIn wsX9_isIn rm_X9_isIn G (w_X9_isIn G q F) [.ref (q 35), .int (jz p1), .int (jz p2), .int (jz p3)] (jz r) (w_X9_isIn G q F) := CTi_of (by decide) rfl rfl (Nat.le_of_ble_eq_true rfl) (fun g C hG hl hF => by
    subst hG
    subst hl
    exact k_X9_isIn C q F p1 p2 p3 (fun x => x = r) (fun r' e => by cases e; exact hF) ⟨_, hf, rfl⟩)

-- TightHullsModel.weightOf(I)I
def f_X9_weightOf (p1 : Int) (m_points : Int) (c_this_far : Nat → Int) : Option Int := lq2 (fun (n6 : Int → Int → Option Int) (v2_6 : Int) (v3_6 : Int) => if ltI v3_6 m_points = true then (lq2 (fun (n17 : Int → Int → Option Int) (v2_17 : Int) (v4_17 : Int) => if ltI v3_6 v4_17 = true then (n6 v2_17 (v3_6 + 1)) else (lq2 (fun (n26 : Int → Int → Option Int) (v2_26 : Int) (v5_26 : Int) => if ltI v5_26 m_points = true then (lq2 (fun (n38 : Int → Int → Option Int) (v2_38 : Int) (v6_38 : Int) => if ltI v5_26 v6_38 = true then (n26 v2_38 (v5_26 + 1)) else (bd1 (f_X9_isIn p1 v3_6 0) (fun r49 => jn (fun (v2_158 : Int) => n38 v2_158 (v6_38 + 1)) (fun (k158 : Int → Option Int) => if eqI r49 0 = true then (k158 v2_38) else (bd1 (f_X9_isIn p1 v4_17 0) (fun r60 => if eqI r60 0 = true then (k158 v2_38) else (bd1 (f_X9_isIn p1 v5_26 1) (fun r71 => if eqI r71 0 = true then (k158 v2_38) else (bd1 (f_X9_isIn p1 v6_38 1) (fun r82 => if eqI r82 0 = true then (k158 v2_38) else (bd1 (f_X9_d v3_6 v4_17 c_this_far) (fun r92 => bd1 (f_X9_d v5_26 v6_38 c_this_far) (fun r100 => lv ((r92 + r100)) (fun x104 => bd1 (f_X9_d v3_6 v5_26 c_this_far) (fun r112 => bd1 (f_X9_d v4_17 v6_38 c_this_far) (fun r120 => bd1 (f_X9_d v3_6 v6_38 c_this_far) (fun r128 => bd1 (f_X9_d v4_17 v5_26 c_this_far) (fun r136 => lv ((maxI x104 (maxI (r112 + r120) (r128 + r136)))) (fun x146 => lv ((minI v2_38 (x146 - x104))) (fun x157 => k158 x157)))))))))))))))))))) 300 v2_26 0) else (n17 v2_26 (v4_17 + 1))) 300 v2_17 0)) 300 v2_6 0) else (some v2_6)) 300 160 0
abbrev rm_X9_weightOf : Room := { frames := 1, cells := 0, slots := 0, locals := 60 }
abbrev w_X9_weightOf (G : gG) (q : Nat → Nat) (F : Nat → Int) (c_this_far : Nat → Int) : va_W := [((q 35), oX9 F q), ((q 1), aI G 25 c_this_far)]
theorem hd_X9_weightOf : yX9_weightOf.cls = RX9 ∧ yX9_weightOf.cls ≠ "java/lang/invoke/MethodHandle" ∧ yX9_weightOf.cls ≠ "java/lang/invoke/VarHandle" ∧ (parseMethodDescriptor yX9_weightOf.desc).map (fun d => d.parameters.length) = some 1 := by decide +kernel
theorem in_X9_weightOf_X9 : ∀ w ∈ u_ws RX9 TX9 35, w ∈ wsX9_weightOf := fun w h => List.mem_cons_of_mem _ (List.mem_append_right _ (h))
theorem gf_X9_weightOf_9 : GF wsX9_weightOf RX9 9 8 0 := ⟨RX9, TX9, 35, rfl, in_X9_weightOf_X9, by decide, List.mem_of_getElem? (i := 1) rfl⟩
theorem mm_X9_weightOf_2 : Cond.methodLink RX9 133 Lib.Math.max.name ∈ wsX9_weightOf := List.mem_of_getElem? (i := 2) rfl
theorem mm_X9_weightOf_3 : Cond.static Lib.Math.max.name ∈ wsX9_weightOf := List.mem_of_getElem? (i := 3) rfl
theorem mm_X9_weightOf_4 : Cond.initialized "java/lang/Math" ∈ wsX9_weightOf := List.mem_of_getElem? (i := 4) rfl
theorem mm_X9_weightOf_5 : Cond.code Lib.Math.max.name Lib.Math.max.code 2 (some .int) ∈ wsX9_weightOf := List.mem_of_getElem? (i := 5) rfl
theorem mm_X9_weightOf_6 : Cond.methodLink RX9 115 Lib.Math.min.name ∈ wsX9_weightOf := List.mem_of_getElem? (i := 6) rfl
theorem mm_X9_weightOf_7 : Cond.static Lib.Math.min.name ∈ wsX9_weightOf := List.mem_of_getElem? (i := 7) rfl
theorem mm_X9_weightOf_8 : Cond.code Lib.Math.min.name Lib.Math.min.code 2 (some .int) ∈ wsX9_weightOf := List.mem_of_getElem? (i := 8) rfl
set_option maxRecDepth 100000 in
set_option maxHeartbeats 4000000 in
theorem k_X9_weightOf {g : XC} (C : XOk g cX9_weightOf RX9 wsX9_weightOf rm_X9_weightOf 9) (q : Nat → Nat) (F : Nat → Int) (c_this_far : Nat → Int) (p1 : Int) (K : Int → Prop) (hK : ∀ (r : Int), K r → (narrow .int (.int (jz r)) = .int (jz r) → FinI g 0 0 (w_X9_weightOf (xG g) q F c_this_far) (jz r))) (h : wp (f_X9_weightOf p1 (F 0) c_this_far) K) : WW g 0 0 (w_X9_weightOf (xG g) q F c_this_far) 0 [(0, .ref (q 35)), (1, .int (jz p1))] [] := by
  unfold f_X9_weightOf at h
  refine r_sipush C (pc := 0) dX9_weightOf_0 rfl ?_
  refine r_istore_n C (pc := 3) dX9_weightOf_3 rfl (by decide) (L' := [(0, .ref (q 35)), (1, .int (jz p1)), (2, .int (jz 160))]) rfl ?_
  refine r_iconst C (pc := 4) dX9_weightOf_4 ?_
  refine r_istore_n C (pc := 5) dX9_weightOf_5 rfl (by decide) (L' := [(0, .ref (q 35)), (1, .int (jz p1)), (2, .int (jz 160)), (3, .int (jz 0))]) rfl ?_
  refine lq2_e (fun (v2_6 : Int) (v3_6 : Int) => WW g 0 0 (w_X9_weightOf (xG g) q F c_this_far) 6 [(0, .ref (q 35)), (1, .int (jz p1)), (2, .int (jz v2_6)), (3, .int (jz v3_6))] []) h (fun n6 hn6 v2_6 v3_6 h => ?_)
  refine r_iload_n C (pc := 6) dX9_weightOf_6 rfl 3 rfl ?_
  refine r_aload_n C (pc := 7) dX9_weightOf_7 rfl 0 rfl ?_
  refine r_get C (pc := 8) dX9_weightOf_8 gf_X9_weightOf_9 0 rfl rfl ?_
  refine r_icmp_ge C (pc := 11) 182 dX9_weightOf_11 rfl h (fun c11 h => ?_) (fun c11 h => ?_)
  · refine r_iload_n C (pc := 182) dX9_weightOf_182 rfl 2 rfl ?_
    exact r_iret C (pc := 183) dX9_weightOf_183 (hK v2_6 (wp_s h) rfl)
  · refine r_iconst C (pc := 14) dX9_weightOf_14 ?_
    refine r_istore C (pc := 15) dX9_weightOf_15 (by decide) (L' := [(0, .ref (q 35)), (1, .int (jz p1)), (2, .int (jz v2_6)), (3, .int (jz v3_6)), (4, .int (jz 0))]) rfl ?_
    refine lq2_e (fun (v2_17 : Int) (v4_17 : Int) => WW g 0 0 (w_X9_weightOf (xG g) q F c_this_far) 17 [(0, .ref (q 35)), (1, .int (jz p1)), (2, .int (jz v2_17)), (3, .int (jz v3_6)), (4, .int (jz v4_17))] []) h (fun n17 hn17 v2_17 v4_17 h => ?_)
    refine r_iload C (pc := 17) dX9_weightOf_17 4 rfl ?_
    refine r_iload_n C (pc := 19) dX9_weightOf_19 rfl 3 rfl ?_
    refine r_icmp_gt C (pc := 20) 176 dX9_weightOf_20 rfl h (fun c20 h => ?_) (fun c20 h => ?_)
    · refine r_iinc C (pc := 176) dX9_weightOf_176 3 rfl (by decide) (L' := [(0, .ref (q 35)), (1, .int (jz p1)), (2, .int (jz v2_17)), (3, .int (jz (v3_6 + 1))), (4, .int (jz v4_17))]) rfl ?_
      refine r_goto C (pc := 179) 6 dX9_weightOf_179 rfl ?_
      refine r_sub [0, 1, 2, 3] rfl ?_
      exact hn6 v2_17 (v3_6 + 1) h
    · refine r_iconst C (pc := 23) dX9_weightOf_23 ?_
      refine r_istore C (pc := 24) dX9_weightOf_24 (by decide) (L' := [(0, .ref (q 35)), (1, .int (jz p1)), (2, .int (jz v2_17)), (3, .int (jz v3_6)), (4, .int (jz v4_17)), (5, .int (jz 0))]) rfl ?_
      refine lq2_e (fun (v2_26 : Int) (v5_26 : Int) => WW g 0 0 (w_X9_weightOf (xG g) q F c_this_far) 26 [(0, .ref (q 35)), (1, .int (jz p1)), (2, .int (jz v2_26)), (3, .int (jz v3_6)), (4, .int (jz v4_17)), (5, .int (jz v5_26))] []) h (fun n26 hn26 v2_26 v5_26 h => ?_)
      refine r_iload C (pc := 26) dX9_weightOf_26 5 rfl ?_
      refine r_aload_n C (pc := 28) dX9_weightOf_28 rfl 0 rfl ?_
      refine r_get C (pc := 29) dX9_weightOf_29 gf_X9_weightOf_9 0 rfl rfl ?_
      refine r_icmp_ge C (pc := 32) 170 dX9_weightOf_32 rfl h (fun c32 h => ?_) (fun c32 h => ?_)
      · refine r_iinc C (pc := 170) dX9_weightOf_170 4 rfl (by decide) (L' := [(0, .ref (q 35)), (1, .int (jz p1)), (2, .int (jz v2_26)), (3, .int (jz v3_6)), (4, .int (jz (v4_17 + 1))), (5, .int (jz v5_26))]) rfl ?_
        refine r_goto C (pc := 173) 17 dX9_weightOf_173 rfl ?_
        refine r_sub [0, 1, 2, 3, 4] rfl ?_
        exact hn17 v2_26 (v4_17 + 1) h
      · refine r_iconst C (pc := 35) dX9_weightOf_35 ?_
        refine r_istore C (pc := 36) dX9_weightOf_36 (by decide) (L' := [(0, .ref (q 35)), (1, .int (jz p1)), (2, .int (jz v2_26)), (3, .int (jz v3_6)), (4, .int (jz v4_17)), (5, .int (jz v5_26)), (6, .int (jz 0))]) rfl ?_
        refine lq2_e (fun (v2_38 : Int) (v6_38 : Int) => WW g 0 0 (w_X9_weightOf (xG g) q F c_this_far) 38 [(0, .ref (q 35)), (1, .int (jz p1)), (2, .int (jz v2_38)), (3, .int (jz v3_6)), (4, .int (jz v4_17)), (5, .int (jz v5_26)), (6, .int (jz v6_38))] []) h (fun n38 hn38 v2_38 v6_38 h => ?_)
        refine r_iload C (pc := 38) dX9_weightOf_38 6 rfl ?_
        refine r_iload C (pc := 40) dX9_weightOf_40 5 rfl ?_
        refine r_icmp_gt C (pc := 42) 164 dX9_weightOf_42 rfl h (fun c42 h => ?_) (fun c42 h => ?_)
        · refine r_iinc C (pc := 164) dX9_weightOf_164 5 rfl (by decide) (L' := [(0, .ref (q 35)), (1, .int (jz p1)), (2, .int (jz v2_38)), (3, .int (jz v3_6)), (4, .int (jz v4_17)), (5, .int (jz (v5_26 + 1))), (6, .int (jz v6_38))]) rfl ?_
          refine r_goto C (pc := 167) 26 dX9_weightOf_167 rfl ?_
          refine r_sub [0, 1, 2, 3, 4, 5] rfl ?_
          exact hn26 v2_38 (v5_26 + 1) h
        · refine r_aload_n C (pc := 45) dX9_weightOf_45 rfl 0 rfl ?_
          refine r_iload_n C (pc := 46) dX9_weightOf_46 rfl 1 rfl ?_
          refine r_iload_n C (pc := 47) dX9_weightOf_47 rfl 3 rfl ?_
          refine r_iconst C (pc := 48) dX9_weightOf_48 ?_
          obtain ⟨r49, e49, h⟩ := wp_b1 h
          refine b_cVi C (pc := 49) dX9_weightOf_49 (c_X9_isIn (xl g) (xG g) q F p1 v3_6 0 r49 e49) rfl gX9_weightOf_X9_isIn ⟨rfl, rfl⟩ 3 hd_X9_isIn ⟨Nat.le_of_ble_eq_true rfl, Nat.le_of_ble_eq_true rfl⟩ rfl 0 rfl rfl rfl [0] rfl (srt_nd 0 rfl) (ws' := w_X9_weightOf (xG g) q F c_this_far) (Put.m rfl rfl rfl) rfl (rest := []) rfl (Nat.le_of_ble_eq_true rfl) ⟨Nat.zero_le _, Nat.zero_le _⟩ ?_
          refine jn_e (fun (k158 : Int → Option Int) => ∀ (v2_158 : Int), wp (k158 v2_158) K → WW g 0 0 (w_X9_weightOf (xG g) q F c_this_far) 158 [(0, .ref (q 35)), (1, .int (jz p1)), (2, .int (jz v2_158)), (3, .int (jz v3_6)), (4, .int (jz v4_17)), (5, .int (jz v5_26)), (6, .int (jz v6_38))] []) h (fun v2_158 h => ?_) (fun k158 hk158 h => ?_)
          · refine r_iinc C (pc := 158) dX9_weightOf_158 6 rfl (by decide) (L' := [(0, .ref (q 35)), (1, .int (jz p1)), (2, .int (jz v2_158)), (3, .int (jz v3_6)), (4, .int (jz v4_17)), (5, .int (jz v5_26)), (6, .int (jz (v6_38 + 1)))]) rfl ?_
            refine r_goto C (pc := 161) 38 dX9_weightOf_161 rfl ?_
            exact hn38 v2_158 (v6_38 + 1) h
          · refine r_if_eq C (pc := 52) 158 dX9_weightOf_52 rfl h (fun c52 h => ?_) (fun c52 h => ?_)
            · exact hk158 v2_38 h
            · refine r_aload_n C (pc := 55) dX9_weightOf_55 rfl 0 rfl ?_
              refine r_iload_n C (pc := 56) dX9_weightOf_56 rfl 1 rfl ?_
              refine r_iload C (pc := 57) dX9_weightOf_57 4 rfl ?_
              refine r_iconst C (pc := 59) dX9_weightOf_59 ?_
              obtain ⟨r60, e60, h⟩ := wp_b1 h
              refine b_cVi C (pc := 60) dX9_weightOf_60 (c_X9_isIn (xl g) (xG g) q F p1 v4_17 0 r60 e60) rfl gX9_weightOf_X9_isIn ⟨rfl, rfl⟩ 3 hd_X9_isIn ⟨Nat.le_of_ble_eq_true rfl, Nat.le_of_ble_eq_true rfl⟩ rfl 0 rfl rfl rfl [0] rfl (srt_nd 0 rfl) (ws' := w_X9_weightOf (xG g) q F c_this_far) (Put.m rfl rfl rfl) rfl (rest := []) rfl (Nat.le_of_ble_eq_true rfl) ⟨Nat.zero_le _, Nat.zero_le _⟩ ?_
              refine r_if_eq C (pc := 63) 158 dX9_weightOf_63 rfl h (fun c63 h => ?_) (fun c63 h => ?_)
              · exact hk158 v2_38 h
              · refine r_aload_n C (pc := 66) dX9_weightOf_66 rfl 0 rfl ?_
                refine r_iload_n C (pc := 67) dX9_weightOf_67 rfl 1 rfl ?_
                refine r_iload C (pc := 68) dX9_weightOf_68 5 rfl ?_
                refine r_iconst C (pc := 70) dX9_weightOf_70 ?_
                obtain ⟨r71, e71, h⟩ := wp_b1 h
                refine b_cVi C (pc := 71) dX9_weightOf_71 (c_X9_isIn (xl g) (xG g) q F p1 v5_26 1 r71 e71) rfl gX9_weightOf_X9_isIn ⟨rfl, rfl⟩ 3 hd_X9_isIn ⟨Nat.le_of_ble_eq_true rfl, Nat.le_of_ble_eq_true rfl⟩ rfl 0 rfl rfl rfl [0] rfl (srt_nd 0 rfl) (ws' := w_X9_weightOf (xG g) q F c_this_far) (Put.m rfl rfl rfl) rfl (rest := []) rfl (Nat.le_of_ble_eq_true rfl) ⟨Nat.zero_le _, Nat.zero_le _⟩ ?_
                refine r_if_eq C (pc := 74) 158 dX9_weightOf_74 rfl h (fun c74 h => ?_) (fun c74 h => ?_)
                · exact hk158 v2_38 h
                · refine r_aload_n C (pc := 77) dX9_weightOf_77 rfl 0 rfl ?_
                  refine r_iload_n C (pc := 78) dX9_weightOf_78 rfl 1 rfl ?_
                  refine r_iload C (pc := 79) dX9_weightOf_79 6 rfl ?_
                  refine r_iconst C (pc := 81) dX9_weightOf_81 ?_
                  obtain ⟨r82, e82, h⟩ := wp_b1 h
                  refine b_cVi C (pc := 82) dX9_weightOf_82 (c_X9_isIn (xl g) (xG g) q F p1 v6_38 1 r82 e82) rfl gX9_weightOf_X9_isIn ⟨rfl, rfl⟩ 3 hd_X9_isIn ⟨Nat.le_of_ble_eq_true rfl, Nat.le_of_ble_eq_true rfl⟩ rfl 0 rfl rfl rfl [0] rfl (srt_nd 0 rfl) (ws' := w_X9_weightOf (xG g) q F c_this_far) (Put.m rfl rfl rfl) rfl (rest := []) rfl (Nat.le_of_ble_eq_true rfl) ⟨Nat.zero_le _, Nat.zero_le _⟩ ?_
                  refine r_if_eq C (pc := 85) 158 dX9_weightOf_85 rfl h (fun c85 h => ?_) (fun c85 h => ?_)
                  · exact hk158 v2_38 h
                  · refine r_aload_n C (pc := 88) dX9_weightOf_88 rfl 0 rfl ?_
                    refine r_iload_n C (pc := 89) dX9_weightOf_89 rfl 3 rfl ?_
                    refine r_iload C (pc := 90) dX9_weightOf_90 4 rfl ?_
                    obtain ⟨r92, e92, h⟩ := wp_b1 h
                    refine b_cVi C (pc := 92) dX9_weightOf_92 (c_X9_d (xl g) (xG g) q F c_this_far v3_6 v4_17 r92 e92) rfl gX9_weightOf_X9_d ⟨rfl, rfl⟩ 2 hd_X9_d ⟨Nat.le_of_ble_eq_true rfl, Nat.le_of_ble_eq_true rfl⟩ rfl 0 rfl rfl rfl [0, 1] rfl (srt_nd 0 rfl) (ws' := w_X9_weightOf (xG g) q F c_this_far) (Put.m rfl rfl rfl) rfl (rest := []) rfl (Nat.le_of_ble_eq_true rfl) ⟨Nat.zero_le _, Nat.zero_le _⟩ ?_
                    refine r_aload_n C (pc := 95) dX9_weightOf_95 rfl 0 rfl ?_
                    refine r_iload C (pc := 96) dX9_weightOf_96 5 rfl ?_
                    refine r_iload C (pc := 98) dX9_weightOf_98 6 rfl ?_
                    obtain ⟨r100, e100, h⟩ := wp_b1 h
                    refine b_cVi C (pc := 100) dX9_weightOf_100 (c_X9_d (xl g) (xG g) q F c_this_far v5_26 v6_38 r100 e100) rfl gX9_weightOf_X9_d ⟨rfl, rfl⟩ 2 hd_X9_d ⟨Nat.le_of_ble_eq_true rfl, Nat.le_of_ble_eq_true rfl⟩ rfl 0 rfl rfl rfl [0, 1] rfl (srt_nd 0 rfl) (ws' := w_X9_weightOf (xG g) q F c_this_far) (Put.m rfl rfl rfl) rfl (rest := [.int (jz r92)]) rfl (Nat.le_of_ble_eq_true rfl) ⟨Nat.zero_le _, Nat.zero_le _⟩ ?_
                    refine r_iadd C (pc := 103) dX9_weightOf_103 ?_
                    refine r_let h (fun x104 h => ?_)
                    refine r_istore C (pc := 104) dX9_weightOf_104 (by decide) (L' := [(0, .ref (q 35)), (1, .int (jz p1)), (2, .int (jz v2_38)), (3, .int (jz v3_6)), (4, .int (jz v4_17)), (5, .int (jz v5_26)), (6, .int (jz v6_38)), (7, .int (jz x104))]) rfl ?_
                    refine r_iload C (pc := 106) dX9_weightOf_106 7 rfl ?_
                    refine r_aload_n C (pc := 108) dX9_weightOf_108 rfl 0 rfl ?_
                    refine r_iload_n C (pc := 109) dX9_weightOf_109 rfl 3 rfl ?_
                    refine r_iload C (pc := 110) dX9_weightOf_110 5 rfl ?_
                    obtain ⟨r112, e112, h⟩ := wp_b1 h
                    refine b_cVi C (pc := 112) dX9_weightOf_112 (c_X9_d (xl g) (xG g) q F c_this_far v3_6 v5_26 r112 e112) rfl gX9_weightOf_X9_d ⟨rfl, rfl⟩ 2 hd_X9_d ⟨Nat.le_of_ble_eq_true rfl, Nat.le_of_ble_eq_true rfl⟩ rfl 0 rfl rfl rfl [0, 1] rfl (srt_nd 0 rfl) (ws' := w_X9_weightOf (xG g) q F c_this_far) (Put.m rfl rfl rfl) rfl (rest := [.int (jz x104)]) rfl (Nat.le_of_ble_eq_true rfl) ⟨Nat.zero_le _, Nat.zero_le _⟩ ?_
                    refine r_aload_n C (pc := 115) dX9_weightOf_115 rfl 0 rfl ?_
                    refine r_iload C (pc := 116) dX9_weightOf_116 4 rfl ?_
                    refine r_iload C (pc := 118) dX9_weightOf_118 6 rfl ?_
                    obtain ⟨r120, e120, h⟩ := wp_b1 h
                    refine b_cVi C (pc := 120) dX9_weightOf_120 (c_X9_d (xl g) (xG g) q F c_this_far v4_17 v6_38 r120 e120) rfl gX9_weightOf_X9_d ⟨rfl, rfl⟩ 2 hd_X9_d ⟨Nat.le_of_ble_eq_true rfl, Nat.le_of_ble_eq_true rfl⟩ rfl 0 rfl rfl rfl [0, 1] rfl (srt_nd 0 rfl) (ws' := w_X9_weightOf (xG g) q F c_this_far) (Put.m rfl rfl rfl) rfl (rest := [.int (jz r112), .int (jz x104)]) rfl (Nat.le_of_ble_eq_true rfl) ⟨Nat.zero_le _, Nat.zero_le _⟩ ?_
                    refine r_iadd C (pc := 123) dX9_weightOf_123 ?_
                    refine r_aload_n C (pc := 124) dX9_weightOf_124 rfl 0 rfl ?_
                    refine r_iload_n C (pc := 125) dX9_weightOf_125 rfl 3 rfl ?_
                    refine r_iload C (pc := 126) dX9_weightOf_126 6 rfl ?_
                    obtain ⟨r128, e128, h⟩ := wp_b1 h
                    refine b_cVi C (pc := 128) dX9_weightOf_128 (c_X9_d (xl g) (xG g) q F c_this_far v3_6 v6_38 r128 e128) rfl gX9_weightOf_X9_d ⟨rfl, rfl⟩ 2 hd_X9_d ⟨Nat.le_of_ble_eq_true rfl, Nat.le_of_ble_eq_true rfl⟩ rfl 0 rfl rfl rfl [0, 1] rfl (srt_nd 0 rfl) (ws' := w_X9_weightOf (xG g) q F c_this_far) (Put.m rfl rfl rfl) rfl (rest := [.int (jz (r112 + r120)), .int (jz x104)]) rfl (Nat.le_of_ble_eq_true rfl) ⟨Nat.zero_le _, Nat.zero_le _⟩ ?_
                    refine r_aload_n C (pc := 131) dX9_weightOf_131 rfl 0 rfl ?_
                    refine r_iload C (pc := 132) dX9_weightOf_132 4 rfl ?_
                    refine r_iload C (pc := 134) dX9_weightOf_134 5 rfl ?_
                    obtain ⟨r136, e136, h⟩ := wp_b1 h
                    refine b_cVi C (pc := 136) dX9_weightOf_136 (c_X9_d (xl g) (xG g) q F c_this_far v4_17 v5_26 r136 e136) rfl gX9_weightOf_X9_d ⟨rfl, rfl⟩ 2 hd_X9_d ⟨Nat.le_of_ble_eq_true rfl, Nat.le_of_ble_eq_true rfl⟩ rfl 0 rfl rfl rfl [0, 1] rfl (srt_nd 0 rfl) (ws' := w_X9_weightOf (xG g) q F c_this_far) (Put.m rfl rfl rfl) rfl (rest := [.int (jz r128), .int (jz (r112 + r120)), .int (jz x104)]) rfl (Nat.le_of_ble_eq_true rfl) ⟨Nat.zero_le _, Nat.zero_le _⟩ ?_
                    refine r_iadd C (pc := 139) dX9_weightOf_139 ?_
                    refine r_mmax C (pc := 140) dX9_weightOf_140 mm_X9_weightOf_2 mm_X9_weightOf_3 mm_X9_weightOf_4 mm_X9_weightOf_5 (Nat.le_of_ble_eq_true rfl) (Nat.le_of_ble_eq_true rfl) ⟨Nat.zero_le _, Nat.zero_le _⟩ ?_
                    refine r_mmax C (pc := 143) dX9_weightOf_143 mm_X9_weightOf_2 mm_X9_weightOf_3 mm_X9_weightOf_4 mm_X9_weightOf_5 (Nat.le_of_ble_eq_true rfl) (Nat.le_of_ble_eq_true rfl) ⟨Nat.zero_le _, Nat.zero_le _⟩ ?_
                    refine r_let h (fun x146 h => ?_)
                    refine r_istore C (pc := 146) dX9_weightOf_146 (by decide) (L' := [(0, .ref (q 35)), (1, .int (jz p1)), (2, .int (jz v2_38)), (3, .int (jz v3_6)), (4, .int (jz v4_17)), (5, .int (jz v5_26)), (6, .int (jz v6_38)), (7, .int (jz x104)), (8, .int (jz x146))]) rfl ?_
                    refine r_iload_n C (pc := 148) dX9_weightOf_148 rfl 2 rfl ?_
                    refine r_iload C (pc := 149) dX9_weightOf_149 8 rfl ?_
                    refine r_iload C (pc := 151) dX9_weightOf_151 7 rfl ?_
                    refine r_isub C (pc := 153) dX9_weightOf_153 ?_
                    refine r_mmin C (pc := 154) dX9_weightOf_154 mm_X9_weightOf_6 mm_X9_weightOf_7 mm_X9_weightOf_4 mm_X9_weightOf_8 (Nat.le_of_ble_eq_true rfl) (Nat.le_of_ble_eq_true rfl) ⟨Nat.zero_le _, Nat.zero_le _⟩ ?_
                    refine r_let h (fun x157 h => ?_)
                    refine r_istore_n C (pc := 157) dX9_weightOf_157 rfl (by decide) (L' := [(0, .ref (q 35)), (1, .int (jz p1)), (2, .int (jz x157)), (3, .int (jz v3_6)), (4, .int (jz v4_17)), (5, .int (jz v5_26)), (6, .int (jz v6_38)), (7, .int (jz x104)), (8, .int (jz x146))]) rfl ?_
                    refine r_sub [0, 1, 2, 3, 4, 5, 6] rfl ?_
                    exact hk158 x157 h
theorem c_X9_weightOf (l : Launch) (G : gG) (q : Nat → Nat) (F : Nat → Int) (c_this_far : Nat → Int) (p1 : Int) (r : Int) (hf : f_X9_weightOf p1 (F 0) c_this_far = some r) : CTi l yX9_weightOf wsX9_weightOf rm_X9_weightOf G (w_X9_weightOf G q F c_this_far) [.ref (q 35), .int (jz p1)] (jz r) (w_X9_weightOf G q F c_this_far) := CTi_of (by decide) rfl rfl (Nat.le_of_ble_eq_true rfl) (fun g C hG hl hF => by
    subst hG
    subst hl
    exact k_X9_weightOf C q F c_this_far p1 (fun x => x = r) (fun r' e => by cases e; exact hF) ⟨_, hf, rfl⟩)

-- TightHullsModel.restOf(II)I
def f_X9_restOf (p1 : Int) (p2 : Int) (m_points : Int) (c_this_far : Nat → Int) : Option Int := bd1 (f_X9_d p1 p2 c_this_far) (fun r4 => lv ((2 * r4)) (fun x8 => lq2 (fun (n12 : Int → Int → Option Int) (v3_12 : Int) (v4_12 : Int) => bd1 (f_X9_isSplit v4_12 m_points) (fun r15 => if eqI r15 0 = true then (some v3_12) else (jn (fun (s1_47 : Int) => lv ((v3_12 - s1_47)) (fun x48 => n12 x48 (v4_12 + 2))) (fun (k47 : Int → Option Int) => if eqI (andI (shrI v4_12 p1) 1) (andI (shrI v4_12 p2) 1) = true then (k47 0) else (bd1 (f_X9_weightOf v4_12 m_points c_this_far) (fun r40 => k47 r40)))))) 300 x8 2))
abbrev rm_X9_restOf : Room := { frames := 2, cells := 0, slots := 0, locals := 88 }
abbrev w_X9_restOf (G : gG) (q : Nat → Nat) (F : Nat → Int) (c_this_far : Nat → Int) : va_W := [((q 35), oX9 F q), ((q 1), aI G 25 c_this_far)]
theorem hd_X9_restOf : yX9_restOf.cls = RX9 ∧ yX9_restOf.cls ≠ "java/lang/invoke/MethodHandle" ∧ yX9_restOf.cls ≠ "java/lang/invoke/VarHandle" ∧ (parseMethodDescriptor yX9_restOf.desc).map (fun d => d.parameters.length) = some 2 := by decide +kernel
set_option maxRecDepth 100000 in
set_option maxHeartbeats 4000000 in
theorem k_X9_restOf {g : XC} (C : XOk g cX9_restOf RX9 wsX9_restOf rm_X9_restOf 5) (q : Nat → Nat) (F : Nat → Int) (c_this_far : Nat → Int) (p1 : Int) (p2 : Int) (K : Int → Prop) (hK : ∀ (r : Int), K r → (narrow .int (.int (jz r)) = .int (jz r) → FinI g 0 0 (w_X9_restOf (xG g) q F c_this_far) (jz r))) (h : wp (f_X9_restOf p1 p2 (F 0) c_this_far) K) : WW g 0 0 (w_X9_restOf (xG g) q F c_this_far) 0 [(0, .ref (q 35)), (1, .int (jz p1)), (2, .int (jz p2))] [] := by
  unfold f_X9_restOf at h
  refine r_iconst C (pc := 0) dX9_restOf_0 ?_
  refine r_aload_n C (pc := 1) dX9_restOf_1 rfl 0 rfl ?_
  refine r_iload_n C (pc := 2) dX9_restOf_2 rfl 1 rfl ?_
  refine r_iload_n C (pc := 3) dX9_restOf_3 rfl 2 rfl ?_
  obtain ⟨r4, e4, h⟩ := wp_b1 h
  refine b_cVi C (pc := 4) dX9_restOf_4 (c_X9_d (xl g) (xG g) q F c_this_far p1 p2 r4 e4) rfl gX9_restOf_X9_d ⟨rfl, rfl⟩ 2 hd_X9_d ⟨Nat.le_of_ble_eq_true rfl, Nat.le_of_ble_eq_true rfl⟩ rfl 0 rfl rfl rfl [0, 1] rfl (srt_nd 0 rfl) (ws' := w_X9_restOf (xG g) q F c_this_far) (Put.m rfl rfl rfl) rfl (rest := [.int (jz 2)]) rfl (Nat.le_of_ble_eq_true rfl) ⟨Nat.zero_le _, Nat.zero_le _⟩ ?_
  refine r_imul C (pc := 7) dX9_restOf_7 ?_
  refine r_let h (fun x8 h => ?_)
  refine r_istore_n C (pc := 8) dX9_restOf_8 rfl (by decide) (L' := [(0, .ref (q 35)), (1, .int (jz p1)), (2, .int (jz p2)), (3, .int (jz x8))]) rfl ?_
  refine r_iconst C (pc := 9) dX9_restOf_9 ?_
  refine r_istore C (pc := 10) dX9_restOf_10 (by decide) (L' := [(0, .ref (q 35)), (1, .int (jz p1)), (2, .int (jz p2)), (3, .int (jz x8)), (4, .int (jz 2))]) rfl ?_
  refine lq2_e (fun (v3_12 : Int) (v4_12 : Int) => WW g 0 0 (w_X9_restOf (xG g) q F c_this_far) 12 [(0, .ref (q 35)), (1, .int (jz p1)), (2, .int (jz p2)), (3, .int (jz v3_12)), (4, .int (jz v4_12))] []) h (fun n12 hn12 v3_12 v4_12 h => ?_)
  refine r_aload_n C (pc := 12) dX9_restOf_12 rfl 0 rfl ?_
  refine r_iload C (pc := 13) dX9_restOf_13 4 rfl ?_
  obtain ⟨r15, e15, h⟩ := wp_b1 h
  refine b_cVi C (pc := 15) dX9_restOf_15 (c_X9_isSplit (xl g) (xG g) q F v4_12 r15 e15) rfl gX9_restOf_X9_isSplit ⟨rfl, rfl⟩ 1 hd_X9_isSplit ⟨Nat.le_of_ble_eq_true rfl, Nat.le_of_ble_eq_true rfl⟩ rfl 0 rfl rfl rfl [0] rfl (srt_nd 0 rfl) (ws' := w_X9_restOf (xG g) q F c_this_far) (Put.m rfl rfl rfl) rfl (rest := []) rfl (Nat.le_of_ble_eq_true rfl) ⟨Nat.zero_le _, Nat.zero_le _⟩ ?_
  refine r_if_eq C (pc := 18) 55 dX9_restOf_18 rfl h (fun c18 h => ?_) (fun c18 h => ?_)
  · refine r_iload_n C (pc := 55) dX9_restOf_55 rfl 3 rfl ?_
    exact r_iret C (pc := 56) dX9_restOf_56 (hK v3_12 (wp_s h) rfl)
  · refine r_iload_n C (pc := 21) dX9_restOf_21 rfl 3 rfl ?_
    refine r_iload C (pc := 22) dX9_restOf_22 4 rfl ?_
    refine r_iload_n C (pc := 24) dX9_restOf_24 rfl 1 rfl ?_
    refine r_ishr C (pc := 25) dX9_restOf_25 ?_
    refine r_iconst C (pc := 26) dX9_restOf_26 ?_
    refine r_iand C (pc := 27) dX9_restOf_27 ?_
    refine r_iload C (pc := 28) dX9_restOf_28 4 rfl ?_
    refine r_iload_n C (pc := 30) dX9_restOf_30 rfl 2 rfl ?_
    refine r_ishr C (pc := 31) dX9_restOf_31 ?_
    refine r_iconst C (pc := 32) dX9_restOf_32 ?_
    refine r_iand C (pc := 33) dX9_restOf_33 ?_
    refine jn_e (fun (k47 : Int → Option Int) => ∀ (s1_47 : Int), wp (k47 s1_47) K → WW g 0 0 (w_X9_restOf (xG g) q F c_this_far) 47 [(0, .ref (q 35)), (1, .int (jz p1)), (2, .int (jz p2)), (4, .int (jz v4_12))] [.int (jz s1_47), .int (jz v3_12)]) h (fun s1_47 h => ?_) (fun k47 hk47 h => ?_)
    · refine r_isub C (pc := 47) dX9_restOf_47 ?_
      refine r_let h (fun x48 h => ?_)
      refine r_istore_n C (pc := 48) dX9_restOf_48 rfl (by decide) (L' := [(0, .ref (q 35)), (1, .int (jz p1)), (2, .int (jz p2)), (3, .int (jz x48)), (4, .int (jz v4_12))]) rfl ?_
      refine r_iinc C (pc := 49) dX9_restOf_49 4 rfl (by decide) (L' := [(0, .ref (q 35)), (1, .int (jz p1)), (2, .int (jz p2)), (3, .int (jz x48)), (4, .int (jz (v4_12 + 2)))]) rfl ?_
      refine r_goto C (pc := 52) 12 dX9_restOf_52 rfl ?_
      exact hn12 x48 (v4_12 + 2) h
    · refine r_icmp_eq C (pc := 34) 46 dX9_restOf_34 rfl h (fun c34 h => ?_) (fun c34 h => ?_)
      · refine r_iconst C (pc := 46) dX9_restOf_46 ?_
        refine r_sub [0, 1, 2, 4] rfl ?_
        exact hk47 0 h
      · refine r_aload_n C (pc := 37) dX9_restOf_37 rfl 0 rfl ?_
        refine r_iload C (pc := 38) dX9_restOf_38 4 rfl ?_
        obtain ⟨r40, e40, h⟩ := wp_b1 h
        refine b_cVi C (pc := 40) dX9_restOf_40 (c_X9_weightOf (xl g) (xG g) q F c_this_far v4_12 r40 e40) rfl gX9_restOf_X9_weightOf ⟨rfl, rfl⟩ 1 hd_X9_weightOf ⟨Nat.le_of_ble_eq_true rfl, Nat.le_of_ble_eq_true rfl⟩ rfl 0 rfl rfl rfl [0, 1] rfl (srt_nd 0 rfl) (ws' := w_X9_restOf (xG g) q F c_this_far) (Put.m rfl rfl rfl) rfl (rest := [.int (jz v3_12)]) rfl (Nat.le_of_ble_eq_true rfl) ⟨Nat.zero_le _, Nat.zero_le _⟩ ?_
        refine r_goto C (pc := 43) 47 dX9_restOf_43 rfl ?_
        refine r_sub [0, 1, 2, 4] rfl ?_
        exact hk47 r40 h
theorem c_X9_restOf (l : Launch) (G : gG) (q : Nat → Nat) (F : Nat → Int) (c_this_far : Nat → Int) (p1 : Int) (p2 : Int) (r : Int) (hf : f_X9_restOf p1 p2 (F 0) c_this_far = some r) : CTi l yX9_restOf wsX9_restOf rm_X9_restOf G (w_X9_restOf G q F c_this_far) [.ref (q 35), .int (jz p1), .int (jz p2)] (jz r) (w_X9_restOf G q F c_this_far) := CTi_of (by decide) rfl rfl (Nat.le_of_ble_eq_true rfl) (fun g C hG hl hF => by
    subst hG
    subst hl
    exact k_X9_restOf C q F c_this_far p1 p2 (fun x => x = r) (fun r' e => by cases e; exact hF) ⟨_, hf, rfl⟩)

-- TightHullsModel.of(III)I
def f_X9_of (p1 : Int) (p2 : Int) (p3 : Int) (m_points : Int) (c_this_far : Nat → Int) (c_this_kept : Nat → Int) (c_this_aside : Nat → Int) : Option (Int × (Nat → Int) × (Nat → Int) × (Nat → Int)) := bd1 (f_X9_isPoint p1 m_points) (fun r2 => jn (some ((-1), c_this_far, c_this_kept, c_this_aside)) (fun (k25 : Option (Int × (Nat → Int) × (Nat → Int) × (Nat → Int))) => if eqI r2 0 = true then k25 else (bd1 (f_X9_isPoint p2 m_points) (fun r10 => if eqI r10 0 = true then k25 else (bd1 (f_X9_in p3 0 2) (fun r19 => if eqI r19 0 = true then k25 else (if eqI p3 1 = true then (bd1 (f_X9_laysAside c_this_far c_this_aside) (fun this_aside_33 => bd3 (f_X9_shortens m_points c_this_far c_this_kept) (fun r37 this_far_37 this_kept_37 => bd1 (f_X9_d p1 p2 this_far_37) (fun r45 => bd1 (f_X9_laysBack this_far_37 this_aside_33) (fun this_far_51 => some (r45, this_far_51, this_kept_37, this_aside_33)))))) else (jn (fun (s0_76 : Int) => some (s0_76, c_this_far, c_this_kept, c_this_aside)) (fun (k76 : Int → Option (Int × (Nat → Int) × (Nat → Int) × (Nat → Int))) => if eqI p3 0 = true then (bd1 (f_X9_d p1 p2 c_this_far) (fun r64 => k76 r64)) else (bd1 (f_X9_restOf p1 p2 m_points c_this_far) (fun r73 => k76 r73)))))))))))
abbrev rm_X9_of : Room := { frames := 3, cells := 0, slots := 0, locals := 112 }
abbrev w_X9_of (G : gG) (q : Nat → Nat) (F : Nat → Int) (c_this_far : Nat → Int) (c_this_kept : Nat → Int) (c_this_aside : Nat → Int) : va_W := [((q 35), oX9 F q), ((q 1), aI G 25 c_this_far), ((q 20), aI G 25 c_this_kept), ((q 21), aI G 25 c_this_aside)]
theorem hd_X9_of : yX9_of.cls = RX9 ∧ yX9_of.cls ≠ "java/lang/invoke/MethodHandle" ∧ yX9_of.cls ≠ "java/lang/invoke/VarHandle" ∧ (parseMethodDescriptor yX9_of.desc).map (fun d => d.parameters.length) = some 3 := by decide +kernel
set_option maxRecDepth 100000 in
set_option maxHeartbeats 4000000 in
theorem k_X9_of {g : XC} (C : XOk g cX9_of RX9 wsX9_of rm_X9_of 6) (q : Nat → Nat) (F : Nat → Int) (c_this_far : Nat → Int) (c_this_kept : Nat → Int) (c_this_aside : Nat → Int) (p1 : Int) (p2 : Int) (p3 : Int) (K : (Int × (Nat → Int) × (Nat → Int) × (Nat → Int)) → Prop) (hK : ∀ (r : Int) (o0 : Nat → Int) (o1 : Nat → Int) (o2 : Nat → Int), K (r, o0, o1, o2) → (narrow .int (.int (jz r)) = .int (jz r) → FinI g 0 0 (w_X9_of (xG g) q F o0 o1 o2) (jz r))) (h : wp (f_X9_of p1 p2 p3 (F 0) c_this_far c_this_kept c_this_aside) K) : WW g 0 0 (w_X9_of (xG g) q F c_this_far c_this_kept c_this_aside) 0 [(0, .ref (q 35)), (1, .int (jz p1)), (2, .int (jz p2)), (3, .int (jz p3))] [] := by
  unfold f_X9_of at h
  refine r_aload_n C (pc := 0) dX9_of_0 rfl 0 rfl ?_
  refine r_iload_n C (pc := 1) dX9_of_1 rfl 1 rfl ?_
  obtain ⟨r2, e2, h⟩ := wp_b1 h
  refine b_cVi C (pc := 2) dX9_of_2 (c_X9_isPoint (xl g) (xG g) q F p1 r2 e2) rfl gX9_of_X9_isPoint ⟨rfl, rfl⟩ 1 hd_X9_isPoint ⟨Nat.le_of_ble_eq_true rfl, Nat.le_of_ble_eq_true rfl⟩ rfl 0 rfl rfl rfl [0] rfl (srt_nd 0 rfl) (ws' := w_X9_of (xG g) q F c_this_far c_this_kept c_this_aside) (Put.m rfl rfl rfl) rfl (rest := []) rfl (Nat.le_of_ble_eq_true rfl) ⟨Nat.zero_le _, Nat.zero_le _⟩ ?_
  refine jn_e (fun (k25 : Option (Int × (Nat → Int) × (Nat → Int) × (Nat → Int))) => wp (k25) K → WW g 0 0 (w_X9_of (xG g) q F c_this_far c_this_kept c_this_aside) 25 [] []) h (fun h => ?_) (fun k25 hk25 h => ?_)
  · refine r_iconst C (pc := 25) dX9_of_25 ?_
    exact r_iret C (pc := 26) dX9_of_26 (hK (-1) c_this_far c_this_kept c_this_aside (wp_s h) rfl)
  · refine r_if_eq C (pc := 5) 25 dX9_of_5 rfl h (fun c5 h => ?_) (fun c5 h => ?_)
    · refine r_sub [] rfl ?_
      exact hk25 h
    · refine r_aload_n C (pc := 8) dX9_of_8 rfl 0 rfl ?_
      refine r_iload_n C (pc := 9) dX9_of_9 rfl 2 rfl ?_
      obtain ⟨r10, e10, h⟩ := wp_b1 h
      refine b_cVi C (pc := 10) dX9_of_10 (c_X9_isPoint (xl g) (xG g) q F p2 r10 e10) rfl gX9_of_X9_isPoint ⟨rfl, rfl⟩ 1 hd_X9_isPoint ⟨Nat.le_of_ble_eq_true rfl, Nat.le_of_ble_eq_true rfl⟩ rfl 0 rfl rfl rfl [0] rfl (srt_nd 0 rfl) (ws' := w_X9_of (xG g) q F c_this_far c_this_kept c_this_aside) (Put.m rfl rfl rfl) rfl (rest := []) rfl (Nat.le_of_ble_eq_true rfl) ⟨Nat.zero_le _, Nat.zero_le _⟩ ?_
      refine r_if_eq C (pc := 13) 25 dX9_of_13 rfl h (fun c13 h => ?_) (fun c13 h => ?_)
      · refine r_sub [] rfl ?_
        exact hk25 h
      · refine r_iload_n C (pc := 16) dX9_of_16 rfl 3 rfl ?_
        refine r_iconst C (pc := 17) dX9_of_17 ?_
        refine r_iconst C (pc := 18) dX9_of_18 ?_
        obtain ⟨r19, e19, h⟩ := wp_b1 h
        refine b_cSi C (pc := 19) dX9_of_19 (c_X9_in (xl g) (xG g) p3 0 2 r19 e19) rfl gX9_of_X9_in ⟨rfl, rfl⟩ 3 hd_X9_in ⟨Nat.le_of_ble_eq_true rfl, Nat.le_of_ble_eq_true rfl⟩ rfl [] rfl (srt_nd 0 rfl) (ws' := w_X9_of (xG g) q F c_this_far c_this_kept c_this_aside) (Put.m rfl rfl rfl) rfl (rest := []) rfl (Nat.le_of_ble_eq_true rfl) ⟨Nat.zero_le _, Nat.zero_le _⟩ ?_
        refine r_if_ne C (pc := 22) 27 dX9_of_22 rfl h (fun c22 h => ?_) (fun c22 h => ?_)
        · refine r_iload_n C (pc := 27) dX9_of_27 rfl 3 rfl ?_
          refine r_iconst C (pc := 28) dX9_of_28 ?_
          refine r_icmp_ne C (pc := 29) 57 dX9_of_29 rfl h (fun c29 h => ?_) (fun c29 h => ?_)
          · refine r_iload_n C (pc := 57) dX9_of_57 rfl 3 rfl ?_
            refine jn_e (fun (k76 : Int → Option (Int × (Nat → Int) × (Nat → Int) × (Nat → Int))) => ∀ (s0_76 : Int), wp (k76 s0_76) K → WW g 0 0 (w_X9_of (xG g) q F c_this_far c_this_kept c_this_aside) 76 [] [.int (jz s0_76)]) h (fun s0_76 h => ?_) (fun k76 hk76 h => ?_)
            · exact r_iret C (pc := 76) dX9_of_76 (hK s0_76 c_this_far c_this_kept c_this_aside (wp_s h) rfl)
            · refine r_if_ne C (pc := 58) 70 dX9_of_58 rfl h (fun c58 h => ?_) (fun c58 h => ?_)
              · refine r_aload_n C (pc := 70) dX9_of_70 rfl 0 rfl ?_
                refine r_iload_n C (pc := 71) dX9_of_71 rfl 1 rfl ?_
                refine r_iload_n C (pc := 72) dX9_of_72 rfl 2 rfl ?_
                obtain ⟨r73, e73, h⟩ := wp_b1 h
                refine b_cVi C (pc := 73) dX9_of_73 (c_X9_restOf (xl g) (xG g) q F c_this_far p1 p2 r73 e73) rfl gX9_of_X9_restOf ⟨rfl, rfl⟩ 2 hd_X9_restOf ⟨Nat.le_of_ble_eq_true rfl, Nat.le_of_ble_eq_true rfl⟩ rfl 0 rfl rfl rfl [0, 1] rfl (srt_nd 0 rfl) (ws' := w_X9_of (xG g) q F c_this_far c_this_kept c_this_aside) (Put.m rfl rfl rfl) rfl (rest := []) rfl (Nat.le_of_ble_eq_true rfl) ⟨Nat.zero_le _, Nat.zero_le _⟩ ?_
                refine r_sub [] rfl ?_
                exact hk76 r73 h
              · refine r_aload_n C (pc := 61) dX9_of_61 rfl 0 rfl ?_
                refine r_iload_n C (pc := 62) dX9_of_62 rfl 1 rfl ?_
                refine r_iload_n C (pc := 63) dX9_of_63 rfl 2 rfl ?_
                obtain ⟨r64, e64, h⟩ := wp_b1 h
                refine b_cVi C (pc := 64) dX9_of_64 (c_X9_d (xl g) (xG g) q F c_this_far p1 p2 r64 e64) rfl gX9_of_X9_d ⟨rfl, rfl⟩ 2 hd_X9_d ⟨Nat.le_of_ble_eq_true rfl, Nat.le_of_ble_eq_true rfl⟩ rfl 0 rfl rfl rfl [0, 1] rfl (srt_nd 0 rfl) (ws' := w_X9_of (xG g) q F c_this_far c_this_kept c_this_aside) (Put.m rfl rfl rfl) rfl (rest := []) rfl (Nat.le_of_ble_eq_true rfl) ⟨Nat.zero_le _, Nat.zero_le _⟩ ?_
                refine r_goto C (pc := 67) 76 dX9_of_67 rfl ?_
                refine r_sub [] rfl ?_
                exact hk76 r64 h
          · refine r_aload_n C (pc := 32) dX9_of_32 rfl 0 rfl ?_
            obtain ⟨this_aside_33, e33, h⟩ := wp_b1 h
            refine b_cVv C (pc := 33) dX9_of_33 (c_X9_laysAside (xl g) (xG g) q F c_this_far c_this_aside this_aside_33 e33) rfl gX9_of_X9_laysAside ⟨rfl, rfl⟩ 0 hd_X9_laysAside ⟨Nat.le_of_ble_eq_true rfl, Nat.le_of_ble_eq_true rfl⟩ rfl 0 rfl rfl rfl [0, 1, 3] rfl (srt_nd 0 rfl) (ws' := w_X9_of (xG g) q F c_this_far c_this_kept this_aside_33) (Put.m rfl rfl rfl) rfl (rest := []) rfl (Nat.le_of_ble_eq_true rfl) ⟨Nat.zero_le _, Nat.zero_le _⟩ ?_
            refine r_aload_n C (pc := 36) dX9_of_36 rfl 0 rfl ?_
            obtain ⟨r37, this_far_37, this_kept_37, e37, h⟩ := wp_b3 h
            refine b_cVi C (pc := 37) dX9_of_37 (c_X9_shortens (xl g) (xG g) q F c_this_far c_this_kept r37 this_far_37 this_kept_37 e37) rfl gX9_of_X9_shortens ⟨rfl, rfl⟩ 0 hd_X9_shortens ⟨Nat.le_of_ble_eq_true rfl, Nat.le_of_ble_eq_true rfl⟩ rfl 0 rfl rfl rfl [0, 1, 2] rfl (srt_nd 0 rfl) (ws' := w_X9_of (xG g) q F this_far_37 this_kept_37 this_aside_33) (Put.m rfl rfl rfl) rfl (rest := []) rfl (Nat.le_of_ble_eq_true rfl) ⟨Nat.zero_le _, Nat.zero_le _⟩ ?_
            refine r_istore C (pc := 40) dX9_of_40 (by decide) (L' := [(0, .ref (q 35)), (1, .int (jz p1)), (2, .int (jz p2)), (3, .int (jz p3)), (4, .int (jz r37))]) rfl ?_
            refine r_aload_n C (pc := 42) dX9_of_42 rfl 0 rfl ?_
            refine r_iload_n C (pc := 43) dX9_of_43 rfl 1 rfl ?_
            refine r_iload_n C (pc := 44) dX9_of_44 rfl 2 rfl ?_
            obtain ⟨r45, e45, h⟩ := wp_b1 h
            refine b_cVi C (pc := 45) dX9_of_45 (c_X9_d (xl g) (xG g) q F this_far_37 p1 p2 r45 e45) rfl gX9_of_X9_d ⟨rfl, rfl⟩ 2 hd_X9_d ⟨Nat.le_of_ble_eq_true rfl, Nat.le_of_ble_eq_true rfl⟩ rfl 0 rfl rfl rfl [0, 1] rfl (srt_nd 0 rfl) (ws' := w_X9_of (xG g) q F this_far_37 this_kept_37 this_aside_33) (Put.m rfl rfl rfl) rfl (rest := []) rfl (Nat.le_of_ble_eq_true rfl) ⟨Nat.zero_le _, Nat.zero_le _⟩ ?_
            refine r_istore C (pc := 48) dX9_of_48 (by decide) (L' := [(0, .ref (q 35)), (1, .int (jz p1)), (2, .int (jz p2)), (3, .int (jz p3)), (4, .int (jz r37)), (5, .int (jz r45))]) rfl ?_
            refine r_aload_n C (pc := 50) dX9_of_50 rfl 0 rfl ?_
            obtain ⟨this_far_51, e51, h⟩ := wp_b1 h
            refine b_cVv C (pc := 51) dX9_of_51 (c_X9_laysBack (xl g) (xG g) q F this_far_37 this_aside_33 this_far_51 e51) rfl gX9_of_X9_laysBack ⟨rfl, rfl⟩ 0 hd_X9_laysBack ⟨Nat.le_of_ble_eq_true rfl, Nat.le_of_ble_eq_true rfl⟩ rfl 0 rfl rfl rfl [0, 1, 3] rfl (srt_nd 0 rfl) (ws' := w_X9_of (xG g) q F this_far_51 this_kept_37 this_aside_33) (Put.m rfl rfl rfl) rfl (rest := []) rfl (Nat.le_of_ble_eq_true rfl) ⟨Nat.zero_le _, Nat.zero_le _⟩ ?_
            refine r_iload C (pc := 54) dX9_of_54 5 rfl ?_
            exact r_iret C (pc := 56) dX9_of_56 (hK r45 this_far_51 this_kept_37 this_aside_33 (wp_s h) rfl)
        · refine r_sub [] rfl ?_
          exact hk25 h
theorem c_X9_of (l : Launch) (G : gG) (q : Nat → Nat) (F : Nat → Int) (c_this_far : Nat → Int) (c_this_kept : Nat → Int) (c_this_aside : Nat → Int) (p1 : Int) (p2 : Int) (p3 : Int) (r : Int) (o0 : Nat → Int) (o1 : Nat → Int) (o2 : Nat → Int) (hf : f_X9_of p1 p2 p3 (F 0) c_this_far c_this_kept c_this_aside = some (r, o0, o1, o2)) : CTi l yX9_of wsX9_of rm_X9_of G (w_X9_of G q F c_this_far c_this_kept c_this_aside) [.ref (q 35), .int (jz p1), .int (jz p2), .int (jz p3)] (jz r) (w_X9_of G q F o0 o1 o2) := CTi_of (by decide) rfl rfl (Nat.le_of_ble_eq_true rfl) (fun g C hG hl hF => by
    subst hG
    subst hl
    exact k_X9_of C q F c_this_far c_this_kept c_this_aside p1 p2 p3 (fun x => x = (r, o0, o1, o2)) (fun r' o0' o1' o2' e => by cases e; exact hF) ⟨_, hf, rfl⟩)

-- TightHullsModel.counting()I
def f_X9_counting (m_points : Int) (c_this_far : Nat → Int) : Option Int := lq2 (fun (n4 : Int → Int → Option Int) (v1_4 : Int) (v2_4 : Int) => bd1 (f_X9_isSplit v2_4 m_points) (fun r6 => if eqI r6 0 = true then (some v1_4) else (bd1 (f_X9_weightOf v2_4 m_points c_this_far) (fun r15 => jn (fun (s1_26 : Int) => lv ((v1_4 + s1_26)) (fun x27 => n4 x27 (v2_4 + 2))) (fun (k26 : Int → Option Int) => if ltI 0 r15 = true then (k26 1) else (k26 0)))))) 300 0 2
abbrev rm_X9_counting : Room := { frames := 2, cells := 0, slots := 0, locals := 88 }
abbrev w_X9_counting (G : gG) (q : Nat → Nat) (F : Nat → Int) (c_this_far : Nat → Int) : va_W := [((q 35), oX9 F q), ((q 1), aI G 25 c_this_far)]
theorem hd_X9_counting : yX9_counting.cls = RX9 ∧ yX9_counting.cls ≠ "java/lang/invoke/MethodHandle" ∧ yX9_counting.cls ≠ "java/lang/invoke/VarHandle" ∧ (parseMethodDescriptor yX9_counting.desc).map (fun d => d.parameters.length) = some 0 := by decide +kernel
set_option maxRecDepth 100000 in
set_option maxHeartbeats 4000000 in
theorem k_X9_counting {g : XC} (C : XOk g cX9_counting RX9 wsX9_counting rm_X9_counting 3) (q : Nat → Nat) (F : Nat → Int) (c_this_far : Nat → Int)  (K : Int → Prop) (hK : ∀ (r : Int), K r → (narrow .int (.int (jz r)) = .int (jz r) → FinI g 0 0 (w_X9_counting (xG g) q F c_this_far) (jz r))) (h : wp (f_X9_counting (F 0) c_this_far) K) : WW g 0 0 (w_X9_counting (xG g) q F c_this_far) 0 [(0, .ref (q 35))] [] := by
  unfold f_X9_counting at h
  refine r_iconst C (pc := 0) dX9_counting_0 ?_
  refine r_istore_n C (pc := 1) dX9_counting_1 rfl (by decide) (L' := [(0, .ref (q 35)), (1, .int (jz 0))]) rfl ?_
  refine r_iconst C (pc := 2) dX9_counting_2 ?_
  refine r_istore_n C (pc := 3) dX9_counting_3 rfl (by decide) (L' := [(0, .ref (q 35)), (1, .int (jz 0)), (2, .int (jz 2))]) rfl ?_
  refine lq2_e (fun (v1_4 : Int) (v2_4 : Int) => WW g 0 0 (w_X9_counting (xG g) q F c_this_far) 4 [(0, .ref (q 35)), (1, .int (jz v1_4)), (2, .int (jz v2_4))] []) h (fun n4 hn4 v1_4 v2_4 h => ?_)
  refine r_aload_n C (pc := 4) dX9_counting_4 rfl 0 rfl ?_
  refine r_iload_n C (pc := 5) dX9_counting_5 rfl 2 rfl ?_
  obtain ⟨r6, e6, h⟩ := wp_b1 h
  refine b_cVi C (pc := 6) dX9_counting_6 (c_X9_isSplit (xl g) (xG g) q F v2_4 r6 e6) rfl gX9_counting_X9_isSplit ⟨rfl, rfl⟩ 1 hd_X9_isSplit ⟨Nat.le_of_ble_eq_true rfl, Nat.le_of_ble_eq_true rfl⟩ rfl 0 rfl rfl rfl [0] rfl (srt_nd 0 rfl) (ws' := w_X9_counting (xG g) q F c_this_far) (Put.m rfl rfl rfl) rfl (rest := []) rfl (Nat.le_of_ble_eq_true rfl) ⟨Nat.zero_le _, Nat.zero_le _⟩ ?_
  refine r_if_eq C (pc := 9) 34 dX9_counting_9 rfl h (fun c9 h => ?_) (fun c9 h => ?_)
  · refine r_iload_n C (pc := 34) dX9_counting_34 rfl 1 rfl ?_
    exact r_iret C (pc := 35) dX9_counting_35 (hK v1_4 (wp_s h) rfl)
  · refine r_iload_n C (pc := 12) dX9_counting_12 rfl 1 rfl ?_
    refine r_aload_n C (pc := 13) dX9_counting_13 rfl 0 rfl ?_
    refine r_iload_n C (pc := 14) dX9_counting_14 rfl 2 rfl ?_
    obtain ⟨r15, e15, h⟩ := wp_b1 h
    refine b_cVi C (pc := 15) dX9_counting_15 (c_X9_weightOf (xl g) (xG g) q F c_this_far v2_4 r15 e15) rfl gX9_counting_X9_weightOf ⟨rfl, rfl⟩ 1 hd_X9_weightOf ⟨Nat.le_of_ble_eq_true rfl, Nat.le_of_ble_eq_true rfl⟩ rfl 0 rfl rfl rfl [0, 1] rfl (srt_nd 0 rfl) (ws' := w_X9_counting (xG g) q F c_this_far) (Put.m rfl rfl rfl) rfl (rest := [.int (jz v1_4)]) rfl (Nat.le_of_ble_eq_true rfl) ⟨Nat.zero_le _, Nat.zero_le _⟩ ?_
    refine jn_e (fun (k26 : Int → Option Int) => ∀ (s1_26 : Int), wp (k26 s1_26) K → WW g 0 0 (w_X9_counting (xG g) q F c_this_far) 26 [(0, .ref (q 35)), (2, .int (jz v2_4))] [.int (jz s1_26), .int (jz v1_4)]) h (fun s1_26 h => ?_) (fun k26 hk26 h => ?_)
    · refine r_iadd C (pc := 26) dX9_counting_26 ?_
      refine r_let h (fun x27 h => ?_)
      refine r_istore_n C (pc := 27) dX9_counting_27 rfl (by decide) (L' := [(0, .ref (q 35)), (1, .int (jz x27)), (2, .int (jz v2_4))]) rfl ?_
      refine r_iinc C (pc := 28) dX9_counting_28 2 rfl (by decide) (L' := [(0, .ref (q 35)), (1, .int (jz x27)), (2, .int (jz (v2_4 + 2)))]) rfl ?_
      refine r_goto C (pc := 31) 4 dX9_counting_31 rfl ?_
      exact hn4 x27 (v2_4 + 2) h
    · refine r_if_le C (pc := 18) 25 dX9_counting_18 rfl h (fun c18 h => ?_) (fun c18 h => ?_)
      · refine r_iconst C (pc := 25) dX9_counting_25 ?_
        refine r_sub [0, 2] rfl ?_
        exact hk26 0 h
      · refine r_iconst C (pc := 21) dX9_counting_21 ?_
        refine r_goto C (pc := 22) 26 dX9_counting_22 rfl ?_
        refine r_sub [0, 2] rfl ?_
        exact hk26 1 h
theorem c_X9_counting (l : Launch) (G : gG) (q : Nat → Nat) (F : Nat → Int) (c_this_far : Nat → Int) (r : Int) (hf : f_X9_counting (F 0) c_this_far = some r) : CTi l yX9_counting wsX9_counting rm_X9_counting G (w_X9_counting G q F c_this_far) [.ref (q 35)] (jz r) (w_X9_counting G q F c_this_far) := CTi_of (by decide) rfl rfl (Nat.le_of_ble_eq_true rfl) (fun g C hG hl hF => by
    subst hG
    subst hl
    exact k_X9_counting C q F c_this_far (fun x => x = r) (fun r' e => by cases e; exact hF) ⟨_, hf, rfl⟩)

-- TightHullsModel.told(I)I
def f_X9_told (p1 : Int) (m_points : Int) (c_this_far : Nat → Int) (c_this_order : Nat → Int) : Option (Int × (Nat → Int)) := if eqI p1 0 = true then (some (m_points, c_this_order)) else (if eqI p1 1 = true then (bd1 (f_X9_barred m_points c_this_far) (fun r62 => jn (fun (s0_73 : Int) => some (s0_73, c_this_order)) (fun (k73 : Int → Option (Int × (Nat → Int))) => if ltI r62 0 = true then (k73 1) else (k73 0)))) else (if eqI p1 2 = true then (bd1 (f_X9_barred m_points c_this_far) (fun r75 => some (r75, c_this_order))) else (if eqI p1 3 = true then (bd1 (f_X9_counting m_points c_this_far) (fun r80 => some (r80, c_this_order))) else (if eqI p1 4 = true then (bd1 (f_X9_isTree m_points c_this_far) (fun r85 => jn (fun (s0_96 : Int) => some (s0_96, c_this_order)) (fun (k96 : Int → Option (Int × (Nat → Int))) => if eqI r85 0 = true then (k96 0) else (k96 1)))) else (if eqI p1 5 = true then (bd1 (f_X9_span m_points c_this_far) (fun r98 => some (r98, c_this_order))) else (if eqI p1 6 = true then (bd1 (f_X9_girth m_points c_this_far) (fun r103 => some (r103, c_this_order))) else (if eqI p1 7 = true then (bd1 (f_X9_usual m_points c_this_far) (fun r108 => some (r108, c_this_order))) else (if eqI p1 8 = true then (bd2 (f_X9_round m_points c_this_far c_this_order) (fun r113 this_order_113 => some (r113, this_order_113))) else (if eqI p1 9 = true then (bd2 (f_X9_keepers m_points c_this_far c_this_order) (fun r118 this_order_118 => some (r118, this_order_118))) else (some ((-1), c_this_order)))))))))))
abbrev rm_X9_told : Room := { frames := 3, cells := 0, slots := 0, locals := 112 }
abbrev w_X9_told (G : gG) (q : Nat → Nat) (F : Nat → Int) (c_this_far : Nat → Int) (c_this_order : Nat → Int) : va_W := [((q 35), oX9 F q), ((q 1), aI G 25 c_this_far), ((q 22), aI G 5 c_this_order)]
theorem hd_X9_told : yX9_told.cls = RX9 ∧ yX9_told.cls ≠ "java/lang/invoke/MethodHandle" ∧ yX9_told.cls ≠ "java/lang/invoke/VarHandle" ∧ (parseMethodDescriptor yX9_told.desc).map (fun d => d.parameters.length) = some 1 := by decide +kernel
theorem in_X9_told_X9 : ∀ w ∈ u_ws RX9 TX9 35, w ∈ wsX9_told := fun w h => List.mem_cons_of_mem _ (List.mem_append_right _ (h))
theorem gf_X9_told_9 : GF wsX9_told RX9 9 8 0 := ⟨RX9, TX9, 35, rfl, in_X9_told_X9, by decide, List.mem_of_getElem? (i := 1) rfl⟩
set_option maxRecDepth 100000 in
set_option maxHeartbeats 4000000 in
theorem k_X9_told {g : XC} (C : XOk g cX9_told RX9 wsX9_told rm_X9_told 2) (q : Nat → Nat) (F : Nat → Int) (c_this_far : Nat → Int) (c_this_order : Nat → Int) (p1 : Int) (K : (Int × (Nat → Int)) → Prop) (hK : ∀ (r : Int) (o0 : Nat → Int), K (r, o0) → (narrow .int (.int (jz r)) = .int (jz r) → FinI g 0 0 (w_X9_told (xG g) q F c_this_far o0) (jz r))) (h : wp (f_X9_told p1 (F 0) c_this_far c_this_order) K) : WW g 0 0 (w_X9_told (xG g) q F c_this_far c_this_order) 0 [(0, .ref (q 35)), (1, .int (jz p1))] [] := by
  unfold f_X9_told at h
  refine r_iload_n C (pc := 0) dX9_told_0 rfl 1 rfl ?_
  refine sw1 h (fun b1_0 h => ?_) (fun b1_0 h => ?_)
  · refine r_tableIn C (pc := 1) 56 dX9_told_1 0 (55) b1_0 (by decide) (by decide) (by decide +kernel) rfl ?_
    refine r_aload_n C (pc := 56) dX9_told_56 rfl 0 rfl ?_
    refine r_get C (pc := 57) dX9_told_57 gf_X9_told_9 0 rfl rfl ?_
    exact r_iret C (pc := 60) dX9_told_60 (hK (F 0) c_this_order (wp_s h) rfl)
  · refine sw1 h (fun b1_1 h => ?_) (fun b1_1 h => ?_)
    · refine r_tableIn C (pc := 1) 61 dX9_told_1 1 (60) b1_1 (by decide) (by decide) (by decide +kernel) rfl ?_
      refine r_aload_n C (pc := 61) dX9_told_61 rfl 0 rfl ?_
      obtain ⟨r62, e62, h⟩ := wp_b1 h
      refine b_cVi C (pc := 62) dX9_told_62 (c_X9_barred (xl g) (xG g) q F c_this_far r62 e62) rfl gX9_told_X9_barred ⟨rfl, rfl⟩ 0 hd_X9_barred ⟨Nat.le_of_ble_eq_true rfl, Nat.le_of_ble_eq_true rfl⟩ rfl 0 rfl rfl rfl [0, 1] rfl (srt_nd 0 rfl) (ws' := w_X9_told (xG g) q F c_this_far c_this_order) (Put.m rfl rfl rfl) rfl (rest := []) rfl (Nat.le_of_ble_eq_true rfl) ⟨Nat.zero_le _, Nat.zero_le _⟩ ?_
      refine jn_e (fun (k73 : Int → Option (Int × (Nat → Int))) => ∀ (s0_73 : Int), wp (k73 s0_73) K → WW g 0 0 (w_X9_told (xG g) q F c_this_far c_this_order) 73 [] [.int (jz s0_73)]) h (fun s0_73 h => ?_) (fun k73 hk73 h => ?_)
      · exact r_iret C (pc := 73) dX9_told_73 (hK s0_73 c_this_order (wp_s h) rfl)
      · refine r_if_ge C (pc := 65) 72 dX9_told_65 rfl h (fun c65 h => ?_) (fun c65 h => ?_)
        · refine r_iconst C (pc := 72) dX9_told_72 ?_
          refine r_sub [] rfl ?_
          exact hk73 0 h
        · refine r_iconst C (pc := 68) dX9_told_68 ?_
          refine r_goto C (pc := 69) 73 dX9_told_69 rfl ?_
          refine r_sub [] rfl ?_
          exact hk73 1 h
    · refine sw1 h (fun b1_2 h => ?_) (fun b1_2 h => ?_)
      · refine r_tableIn C (pc := 1) 74 dX9_told_1 2 (73) b1_2 (by decide) (by decide) (by decide +kernel) rfl ?_
        refine r_aload_n C (pc := 74) dX9_told_74 rfl 0 rfl ?_
        obtain ⟨r75, e75, h⟩ := wp_b1 h
        refine b_cVi C (pc := 75) dX9_told_75 (c_X9_barred (xl g) (xG g) q F c_this_far r75 e75) rfl gX9_told_X9_barred ⟨rfl, rfl⟩ 0 hd_X9_barred ⟨Nat.le_of_ble_eq_true rfl, Nat.le_of_ble_eq_true rfl⟩ rfl 0 rfl rfl rfl [0, 1] rfl (srt_nd 0 rfl) (ws' := w_X9_told (xG g) q F c_this_far c_this_order) (Put.m rfl rfl rfl) rfl (rest := []) rfl (Nat.le_of_ble_eq_true rfl) ⟨Nat.zero_le _, Nat.zero_le _⟩ ?_
        exact r_iret C (pc := 78) dX9_told_78 (hK r75 c_this_order (wp_s h) rfl)
      · refine sw1 h (fun b1_3 h => ?_) (fun b1_3 h => ?_)
        · refine r_tableIn C (pc := 1) 79 dX9_told_1 3 (78) b1_3 (by decide) (by decide) (by decide +kernel) rfl ?_
          refine r_aload_n C (pc := 79) dX9_told_79 rfl 0 rfl ?_
          obtain ⟨r80, e80, h⟩ := wp_b1 h
          refine b_cVi C (pc := 80) dX9_told_80 (c_X9_counting (xl g) (xG g) q F c_this_far r80 e80) rfl gX9_told_X9_counting ⟨rfl, rfl⟩ 0 hd_X9_counting ⟨Nat.le_of_ble_eq_true rfl, Nat.le_of_ble_eq_true rfl⟩ rfl 0 rfl rfl rfl [0, 1] rfl (srt_nd 0 rfl) (ws' := w_X9_told (xG g) q F c_this_far c_this_order) (Put.m rfl rfl rfl) rfl (rest := []) rfl (Nat.le_of_ble_eq_true rfl) ⟨Nat.zero_le _, Nat.zero_le _⟩ ?_
          exact r_iret C (pc := 83) dX9_told_83 (hK r80 c_this_order (wp_s h) rfl)
        · refine sw1 h (fun b1_4 h => ?_) (fun b1_4 h => ?_)
          · refine r_tableIn C (pc := 1) 84 dX9_told_1 4 (83) b1_4 (by decide) (by decide) (by decide +kernel) rfl ?_
            refine r_aload_n C (pc := 84) dX9_told_84 rfl 0 rfl ?_
            obtain ⟨r85, e85, h⟩ := wp_b1 h
            refine b_cVi C (pc := 85) dX9_told_85 (c_X9_isTree (xl g) (xG g) q F c_this_far r85 e85) rfl gX9_told_X9_isTree ⟨rfl, rfl⟩ 0 hd_X9_isTree ⟨Nat.le_of_ble_eq_true rfl, Nat.le_of_ble_eq_true rfl⟩ rfl 0 rfl rfl rfl [0, 1] rfl (srt_nd 0 rfl) (ws' := w_X9_told (xG g) q F c_this_far c_this_order) (Put.m rfl rfl rfl) rfl (rest := []) rfl (Nat.le_of_ble_eq_true rfl) ⟨Nat.zero_le _, Nat.zero_le _⟩ ?_
            refine jn_e (fun (k96 : Int → Option (Int × (Nat → Int))) => ∀ (s0_96 : Int), wp (k96 s0_96) K → WW g 0 0 (w_X9_told (xG g) q F c_this_far c_this_order) 96 [] [.int (jz s0_96)]) h (fun s0_96 h => ?_) (fun k96 hk96 h => ?_)
            · exact r_iret C (pc := 96) dX9_told_96 (hK s0_96 c_this_order (wp_s h) rfl)
            · refine r_if_eq C (pc := 88) 95 dX9_told_88 rfl h (fun c88 h => ?_) (fun c88 h => ?_)
              · refine r_iconst C (pc := 95) dX9_told_95 ?_
                refine r_sub [] rfl ?_
                exact hk96 0 h
              · refine r_iconst C (pc := 91) dX9_told_91 ?_
                refine r_goto C (pc := 92) 96 dX9_told_92 rfl ?_
                refine r_sub [] rfl ?_
                exact hk96 1 h
          · refine sw1 h (fun b1_5 h => ?_) (fun b1_5 h => ?_)
            · refine r_tableIn C (pc := 1) 97 dX9_told_1 5 (96) b1_5 (by decide) (by decide) (by decide +kernel) rfl ?_
              refine r_aload_n C (pc := 97) dX9_told_97 rfl 0 rfl ?_
              obtain ⟨r98, e98, h⟩ := wp_b1 h
              refine b_cVi C (pc := 98) dX9_told_98 (c_X9_span (xl g) (xG g) q F c_this_far r98 e98) rfl gX9_told_X9_span ⟨rfl, rfl⟩ 0 hd_X9_span ⟨Nat.le_of_ble_eq_true rfl, Nat.le_of_ble_eq_true rfl⟩ rfl 0 rfl rfl rfl [0, 1] rfl (srt_nd 0 rfl) (ws' := w_X9_told (xG g) q F c_this_far c_this_order) (Put.m rfl rfl rfl) rfl (rest := []) rfl (Nat.le_of_ble_eq_true rfl) ⟨Nat.zero_le _, Nat.zero_le _⟩ ?_
              exact r_iret C (pc := 101) dX9_told_101 (hK r98 c_this_order (wp_s h) rfl)
            · refine sw1 h (fun b1_6 h => ?_) (fun b1_6 h => ?_)
              · refine r_tableIn C (pc := 1) 102 dX9_told_1 6 (101) b1_6 (by decide) (by decide) (by decide +kernel) rfl ?_
                refine r_aload_n C (pc := 102) dX9_told_102 rfl 0 rfl ?_
                obtain ⟨r103, e103, h⟩ := wp_b1 h
                refine b_cVi C (pc := 103) dX9_told_103 (c_X9_girth (xl g) (xG g) q F c_this_far r103 e103) rfl gX9_told_X9_girth ⟨rfl, rfl⟩ 0 hd_X9_girth ⟨Nat.le_of_ble_eq_true rfl, Nat.le_of_ble_eq_true rfl⟩ rfl 0 rfl rfl rfl [0, 1] rfl (srt_nd 0 rfl) (ws' := w_X9_told (xG g) q F c_this_far c_this_order) (Put.m rfl rfl rfl) rfl (rest := []) rfl (Nat.le_of_ble_eq_true rfl) ⟨Nat.zero_le _, Nat.zero_le _⟩ ?_
                exact r_iret C (pc := 106) dX9_told_106 (hK r103 c_this_order (wp_s h) rfl)
              · refine sw1 h (fun b1_7 h => ?_) (fun b1_7 h => ?_)
                · refine r_tableIn C (pc := 1) 107 dX9_told_1 7 (106) b1_7 (by decide) (by decide) (by decide +kernel) rfl ?_
                  refine r_aload_n C (pc := 107) dX9_told_107 rfl 0 rfl ?_
                  obtain ⟨r108, e108, h⟩ := wp_b1 h
                  refine b_cVi C (pc := 108) dX9_told_108 (c_X9_usual (xl g) (xG g) q F c_this_far r108 e108) rfl gX9_told_X9_usual ⟨rfl, rfl⟩ 0 hd_X9_usual ⟨Nat.le_of_ble_eq_true rfl, Nat.le_of_ble_eq_true rfl⟩ rfl 0 rfl rfl rfl [0, 1] rfl (srt_nd 0 rfl) (ws' := w_X9_told (xG g) q F c_this_far c_this_order) (Put.m rfl rfl rfl) rfl (rest := []) rfl (Nat.le_of_ble_eq_true rfl) ⟨Nat.zero_le _, Nat.zero_le _⟩ ?_
                  exact r_iret C (pc := 111) dX9_told_111 (hK r108 c_this_order (wp_s h) rfl)
                · refine sw1 h (fun b1_8 h => ?_) (fun b1_8 h => ?_)
                  · refine r_tableIn C (pc := 1) 112 dX9_told_1 8 (111) b1_8 (by decide) (by decide) (by decide +kernel) rfl ?_
                    refine r_aload_n C (pc := 112) dX9_told_112 rfl 0 rfl ?_
                    obtain ⟨r113, this_order_113, e113, h⟩ := wp_b2 h
                    refine b_cVi C (pc := 113) dX9_told_113 (c_X9_round (xl g) (xG g) q F c_this_far c_this_order r113 this_order_113 e113) rfl gX9_told_X9_round ⟨rfl, rfl⟩ 0 hd_X9_round ⟨Nat.le_of_ble_eq_true rfl, Nat.le_of_ble_eq_true rfl⟩ rfl 0 rfl rfl rfl [0, 1, 2] rfl (srt_nd 0 rfl) (ws' := w_X9_told (xG g) q F c_this_far this_order_113) (Put.m rfl rfl rfl) rfl (rest := []) rfl (Nat.le_of_ble_eq_true rfl) ⟨Nat.zero_le _, Nat.zero_le _⟩ ?_
                    exact r_iret C (pc := 116) dX9_told_116 (hK r113 this_order_113 (wp_s h) rfl)
                  · refine sw1 h (fun b1_9 h => ?_) (fun b1_9 h => ?_)
                    · refine r_tableIn C (pc := 1) 117 dX9_told_1 9 (116) b1_9 (by decide) (by decide) (by decide +kernel) rfl ?_
                      refine r_aload_n C (pc := 117) dX9_told_117 rfl 0 rfl ?_
                      obtain ⟨r118, this_order_118, e118, h⟩ := wp_b2 h
                      refine b_cVi C (pc := 118) dX9_told_118 (c_X9_keepers (xl g) (xG g) q F c_this_far c_this_order r118 this_order_118 e118) rfl gX9_told_X9_keepers ⟨rfl, rfl⟩ 0 hd_X9_keepers ⟨Nat.le_of_ble_eq_true rfl, Nat.le_of_ble_eq_true rfl⟩ rfl 0 rfl rfl rfl [0, 1, 2] rfl (srt_nd 0 rfl) (ws' := w_X9_told (xG g) q F c_this_far this_order_118) (Put.m rfl rfl rfl) rfl (rest := []) rfl (Nat.le_of_ble_eq_true rfl) ⟨Nat.zero_le _, Nat.zero_le _⟩ ?_
                      exact r_iret C (pc := 121) dX9_told_121 (hK r118 this_order_118 (wp_s h) rfl)
                    · refine r_tableOut C (pc := 1) 122 dX9_told_1 (by have q := sw_out (a := p1) (lo := 0) 10 (by decide) (by decide) (by intro i hi; match i, hi with | 0, _ => exact b1_0 | 1, _ => exact b1_1 | 2, _ => exact b1_2 | 3, _ => exact b1_3 | 4, _ => exact b1_4 | 5, _ => exact b1_5 | 6, _ => exact b1_6 | 7, _ => exact b1_7 | 8, _ => exact b1_8 | 9, _ => exact b1_9); omega) rfl ?_
                      refine r_iconst C (pc := 122) dX9_told_122 ?_
                      exact r_iret C (pc := 123) dX9_told_123 (hK (-1) c_this_order (wp_s h) rfl)
theorem c_X9_told (l : Launch) (G : gG) (q : Nat → Nat) (F : Nat → Int) (c_this_far : Nat → Int) (c_this_order : Nat → Int) (p1 : Int) (r : Int) (o0 : Nat → Int) (hf : f_X9_told p1 (F 0) c_this_far c_this_order = some (r, o0)) : CTi l yX9_told wsX9_told rm_X9_told G (w_X9_told G q F c_this_far c_this_order) [.ref (q 35), .int (jz p1)] (jz r) (w_X9_told G q F c_this_far o0) := CTi_of (by decide) rfl rfl (Nat.le_of_ble_eq_true rfl) (fun g C hG hl hF => by
    subst hG
    subst hl
    exact k_X9_told C q F c_this_far c_this_order p1 (fun x => x = (r, o0)) (fun r' o0' e => by cases e; exact hF) ⟨_, hf, rfl⟩)

-- TightHullsModel.isTight([IIII)Z
def f_X9_isTight (p2 : Int) (p3 : Int) (p4 : Int) (n_p1 : Nat) (c_this_far : Nat → Int) (c_p1 : Nat → Int) : Option Int := jn (fun (s0_51 : Int) => grd (isB s0_51) (some s0_51)) (fun (k51 : Int → Option Int) => if eqI p3 p4 = true then (grd (iin (p2 + p3) n_p1) (if eqI (c_p1 (ix (p2 + p3))) 0 = true then (k51 1) else (k51 0))) else (grd (iin (p2 + p3) n_p1) (grd (iin (p2 + p4) n_p1) (bd1 (f_X9_d p3 p4 c_this_far) (fun r39 => if eqI ((c_p1 (ix (p2 + p3))) + (c_p1 (ix (p2 + p4)))) (2 * r39) = true then (k51 1) else (k51 0))))))
abbrev rm_X9_isTight : Room := { frames := 1, cells := 0, slots := 0, locals := 22 }
abbrev w_X9_isTight (G : gG) (q : Nat → Nat) (a_p1 : Nat) (n_p1 : Nat) (F : Nat → Int) (c_this_far : Nat → Int) (c_p1 : Nat → Int) : va_W := [((q 35), oX9 F q), ((q 1), aI G 25 c_this_far), (a_p1, aI G n_p1 c_p1)]
theorem hd_X9_isTight : yX9_isTight.cls = RX9 ∧ yX9_isTight.cls ≠ "java/lang/invoke/MethodHandle" ∧ yX9_isTight.cls ≠ "java/lang/invoke/VarHandle" ∧ (parseMethodDescriptor yX9_isTight.desc).map (fun d => d.parameters.length) = some 4 := by decide +kernel
set_option maxRecDepth 100000 in
set_option maxHeartbeats 4000000 in
theorem k_X9_isTight {g : XC} (C : XOk g cX9_isTight RX9 wsX9_isTight rm_X9_isTight 5) (q : Nat → Nat) (a_p1 : Nat) (n_p1 : Nat) (F : Nat → Int) (c_this_far : Nat → Int) (c_p1 : Nat → Int) (p2 : Int) (p3 : Int) (p4 : Int) (K : Int → Prop) (hK : ∀ (r : Int), K r → (narrow .boolean (.int (jz r)) = .int (jz r) → FinI g 0 0 (w_X9_isTight (xG g) q a_p1 n_p1 F c_this_far c_p1) (jz r))) (h : wp (f_X9_isTight p2 p3 p4 n_p1 c_this_far c_p1) K) : WW g 0 0 (w_X9_isTight (xG g) q a_p1 n_p1 F c_this_far c_p1) 0 [(0, .ref (q 35)), (1, .ref a_p1), (2, .int (jz p2)), (3, .int (jz p3)), (4, .int (jz p4))] [] := by
  unfold f_X9_isTight at h
  refine r_iload_n C (pc := 0) dX9_isTight_0 rfl 3 rfl ?_
  refine r_iload C (pc := 1) dX9_isTight_1 4 rfl ?_
  refine jn_e (fun (k51 : Int → Option Int) => ∀ (s0_51 : Int), wp (k51 s0_51) K → WW g 0 0 (w_X9_isTight (xG g) q a_p1 n_p1 F c_this_far c_p1) 51 [] [.int (jz s0_51)]) h (fun s0_51 h => ?_) (fun k51 hk51 h => ?_)
  · exact r_iret C (pc := 51) dX9_isTight_51 (hK s0_51 (wp_s (wp_g h).2) (nB (wp_g h).1).1)
  · refine r_icmp_ne C (pc := 3) 22 dX9_isTight_3 rfl h (fun c3 h => ?_) (fun c3 h => ?_)
    · refine r_aload_n C (pc := 22) dX9_isTight_22 rfl 1 rfl ?_
      refine r_iload_n C (pc := 23) dX9_isTight_23 rfl 2 rfl ?_
      refine r_iload_n C (pc := 24) dX9_isTight_24 rfl 3 rfl ?_
      refine r_iadd C (pc := 25) dX9_isTight_25 ?_
      refine r_iald C (pc := 26) dX9_isTight_26 h 2 rfl (fun h => ?_)
      refine r_aload_n C (pc := 27) dX9_isTight_27 rfl 1 rfl ?_
      refine r_iload_n C (pc := 28) dX9_isTight_28 rfl 2 rfl ?_
      refine r_iload C (pc := 29) dX9_isTight_29 4 rfl ?_
      refine r_iadd C (pc := 31) dX9_isTight_31 ?_
      refine r_iald C (pc := 32) dX9_isTight_32 h 2 rfl (fun h => ?_)
      refine r_iadd C (pc := 33) dX9_isTight_33 ?_
      refine r_iconst C (pc := 34) dX9_isTight_34 ?_
      refine r_aload_n C (pc := 35) dX9_isTight_35 rfl 0 rfl ?_
      refine r_iload_n C (pc := 36) dX9_isTight_36 rfl 3 rfl ?_
      refine r_iload C (pc := 37) dX9_isTight_37 4 rfl ?_
      obtain ⟨r39, e39, h⟩ := wp_b1 h
      refine b_cVi C (pc := 39) dX9_isTight_39 (c_X9_d (xl g) (xG g) q F c_this_far p3 p4 r39 e39) rfl gX9_isTight_X9_d ⟨rfl, rfl⟩ 2 hd_X9_d ⟨Nat.le_of_ble_eq_true rfl, Nat.le_of_ble_eq_true rfl⟩ rfl 0 rfl rfl rfl [0, 1] rfl (srt_nd 0 rfl) (ws' := w_X9_isTight (xG g) q a_p1 n_p1 F c_this_far c_p1) (Put.m rfl rfl rfl) rfl (rest := [.int (jz 2), .int (jz ((c_p1 (ix (p2 + p3))) + (c_p1 (ix (p2 + p4)))))]) rfl (Nat.le_of_ble_eq_true rfl) ⟨Nat.zero_le _, Nat.zero_le _⟩ ?_
      refine r_imul C (pc := 42) dX9_isTight_42 ?_
      refine r_icmp_ne C (pc := 43) 50 dX9_isTight_43 rfl h (fun c43 h => ?_) (fun c43 h => ?_)
      · refine r_iconst C (pc := 50) dX9_isTight_50 ?_
        refine r_sub [] rfl ?_
        exact hk51 0 h
      · refine r_iconst C (pc := 46) dX9_isTight_46 ?_
        refine r_goto C (pc := 47) 51 dX9_isTight_47 rfl ?_
        refine r_sub [] rfl ?_
        exact hk51 1 h
    · refine r_aload_n C (pc := 6) dX9_isTight_6 rfl 1 rfl ?_
      refine r_iload_n C (pc := 7) dX9_isTight_7 rfl 2 rfl ?_
      refine r_iload_n C (pc := 8) dX9_isTight_8 rfl 3 rfl ?_
      refine r_iadd C (pc := 9) dX9_isTight_9 ?_
      refine r_iald C (pc := 10) dX9_isTight_10 h 2 rfl (fun h => ?_)
      refine r_if_ne C (pc := 11) 18 dX9_isTight_11 rfl h (fun c11 h => ?_) (fun c11 h => ?_)
      · refine r_iconst C (pc := 18) dX9_isTight_18 ?_
        refine r_goto C (pc := 19) 51 dX9_isTight_19 rfl ?_
        refine r_sub [] rfl ?_
        exact hk51 0 h
      · refine r_iconst C (pc := 14) dX9_isTight_14 ?_
        refine r_goto C (pc := 15) 51 dX9_isTight_15 rfl ?_
        refine r_sub [] rfl ?_
        exact hk51 1 h
theorem c_X9_isTight (l : Launch) (G : gG) (q : Nat → Nat) (a_p1 : Nat) (n_p1 : Nat) (F : Nat → Int) (c_this_far : Nat → Int) (c_p1 : Nat → Int) (p2 : Int) (p3 : Int) (p4 : Int) (r : Int) (hf : f_X9_isTight p2 p3 p4 n_p1 c_this_far c_p1 = some r) : CTi l yX9_isTight wsX9_isTight rm_X9_isTight G (w_X9_isTight G q a_p1 n_p1 F c_this_far c_p1) [.ref (q 35), .ref a_p1, .int (jz p2), .int (jz p3), .int (jz p4)] (jz r) (w_X9_isTight G q a_p1 n_p1 F c_this_far c_p1) := CTi_of (by decide) rfl rfl (Nat.le_of_ble_eq_true rfl) (fun g C hG hl hF => by
    subst hG
    subst hl
    exact k_X9_isTight C q a_p1 n_p1 F c_this_far c_p1 p2 p3 p4 (fun x => x = r) (fun r' e => by cases e; exact hF) ⟨_, hf, rfl⟩)

-- TightHullsModel.isLeast([II)Z
def f_X9_isLeast (p2 : Int) (n_p1 : Nat) (m_points : Int) (c_this_far : Nat → Int) (c_p1 : Nat → Int) : Option Int := lq1 (fun (n2 : Int → Option Int) (v3_2 : Int) => if ltI v3_2 m_points = true then (lq2 (fun (n16 : Int → Int → Option Int) (v4_16 : Int) (v5_16 : Int) => if ltI v5_16 m_points = true then (jn (fun (s0_47 : Int) => n16 s0_47 (v5_16 + 1)) (fun (k47 : Int → Option Int) => jn (k47 1) (fun (k42 : Option Int) => if eqI v4_16 0 = true then (bd1 (f_X9_isTight p2 v3_2 v5_16 n_p1 c_this_far c_p1) (fun r36 => if eqI r36 0 = true then (k47 0) else k42)) else k42))) else (if eqI v4_16 0 = true then (some 0) else (n2 (v3_2 + 1)))) 300 0 0) else (bd1 (f_X9_keeps p2 n_p1 m_points c_this_far c_p1) (fun r71 => grd (isB r71) (some r71)))) 300 0
abbrev rm_X9_isLeast : Room := { frames := 2, cells := 0, slots := 0, locals := 46 }
abbrev w_X9_isLeast (G : gG) (q : Nat → Nat) (a_p1 : Nat) (n_p1 : Nat) (F : Nat → Int) (c_this_far : Nat → Int) (c_p1 : Nat → Int) : va_W := [((q 35), oX9 F q), ((q 1), aI G 25 c_this_far), (a_p1, aI G n_p1 c_p1)]
theorem hd_X9_isLeast : yX9_isLeast.cls = RX9 ∧ yX9_isLeast.cls ≠ "java/lang/invoke/MethodHandle" ∧ yX9_isLeast.cls ≠ "java/lang/invoke/VarHandle" ∧ (parseMethodDescriptor yX9_isLeast.desc).map (fun d => d.parameters.length) = some 2 := by decide +kernel
theorem in_X9_isLeast_X9 : ∀ w ∈ u_ws RX9 TX9 35, w ∈ wsX9_isLeast := fun w h => List.mem_cons_of_mem _ (List.mem_append_right _ (h))
theorem gf_X9_isLeast_9 : GF wsX9_isLeast RX9 9 8 0 := ⟨RX9, TX9, 35, rfl, in_X9_isLeast_X9, by decide, List.mem_of_getElem? (i := 1) rfl⟩
set_option maxRecDepth 100000 in
set_option maxHeartbeats 4000000 in
theorem k_X9_isLeast {g : XC} (C : XOk g cX9_isLeast RX9 wsX9_isLeast rm_X9_isLeast 6) (q : Nat → Nat) (a_p1 : Nat) (n_p1 : Nat) (F : Nat → Int) (c_this_far : Nat → Int) (c_p1 : Nat → Int) (p2 : Int) (K : Int → Prop) (hK : ∀ (r : Int), K r → (narrow .boolean (.int (jz r)) = .int (jz r) → FinI g 0 0 (w_X9_isLeast (xG g) q a_p1 n_p1 F c_this_far c_p1) (jz r))) (h : wp (f_X9_isLeast p2 n_p1 (F 0) c_this_far c_p1) K) : WW g 0 0 (w_X9_isLeast (xG g) q a_p1 n_p1 F c_this_far c_p1) 0 [(0, .ref (q 35)), (1, .ref a_p1), (2, .int (jz p2))] [] := by
  unfold f_X9_isLeast at h
  refine r_iconst C (pc := 0) dX9_isLeast_0 ?_
  refine r_istore_n C (pc := 1) dX9_isLeast_1 rfl (by decide) (L' := [(0, .ref (q 35)), (1, .ref a_p1), (2, .int (jz p2)), (3, .int (jz 0))]) rfl ?_
  refine lq1_e (fun (v3_2 : Int) => WW g 0 0 (w_X9_isLeast (xG g) q a_p1 n_p1 F c_this_far c_p1) 2 [(0, .ref (q 35)), (1, .ref a_p1), (2, .int (jz p2)), (3, .int (jz v3_2))] []) h (fun n2 hn2 v3_2 h => ?_)
  refine r_iload_n C (pc := 2) dX9_isLeast_2 rfl 3 rfl ?_
  refine r_aload_n C (pc := 3) dX9_isLeast_3 rfl 0 rfl ?_
  refine r_get C (pc := 4) dX9_isLeast_4 gf_X9_isLeast_9 0 rfl rfl ?_
  refine r_icmp_ge C (pc := 7) 68 dX9_isLeast_7 rfl h (fun c7 h => ?_) (fun c7 h => ?_)
  · refine r_aload_n C (pc := 68) dX9_isLeast_68 rfl 0 rfl ?_
    refine r_aload_n C (pc := 69) dX9_isLeast_69 rfl 1 rfl ?_
    refine r_iload_n C (pc := 70) dX9_isLeast_70 rfl 2 rfl ?_
    obtain ⟨r71, e71, h⟩ := wp_b1 h
    refine b_cVi C (pc := 71) dX9_isLeast_71 (c_X9_keeps (xl g) (xG g) q a_p1 n_p1 F c_this_far c_p1 p2 r71 e71) rfl gX9_isLeast_X9_keeps ⟨rfl, rfl⟩ 2 hd_X9_keeps ⟨Nat.le_of_ble_eq_true rfl, Nat.le_of_ble_eq_true rfl⟩ rfl 0 rfl rfl rfl [0, 1, 2] rfl (srt_nd 0 rfl) (ws' := w_X9_isLeast (xG g) q a_p1 n_p1 F c_this_far c_p1) (Put.m rfl rfl rfl) rfl (rest := []) rfl (Nat.le_of_ble_eq_true rfl) ⟨Nat.zero_le _, Nat.zero_le _⟩ ?_
    exact r_iret C (pc := 74) dX9_isLeast_74 (hK r71 (wp_s (wp_g h).2) (nB (wp_g h).1).1)
  · refine r_iconst C (pc := 10) dX9_isLeast_10 ?_
    refine r_istore C (pc := 11) dX9_isLeast_11 (by decide) (L' := [(0, .ref (q 35)), (1, .ref a_p1), (2, .int (jz p2)), (3, .int (jz v3_2)), (4, .int (jz 0))]) rfl ?_
    refine r_iconst C (pc := 13) dX9_isLeast_13 ?_
    refine r_istore C (pc := 14) dX9_isLeast_14 (by decide) (L' := [(0, .ref (q 35)), (1, .ref a_p1), (2, .int (jz p2)), (3, .int (jz v3_2)), (4, .int (jz 0)), (5, .int (jz 0))]) rfl ?_
    refine lq2_e (fun (v4_16 : Int) (v5_16 : Int) => WW g 0 0 (w_X9_isLeast (xG g) q a_p1 n_p1 F c_this_far c_p1) 16 [(0, .ref (q 35)), (1, .ref a_p1), (2, .int (jz p2)), (3, .int (jz v3_2)), (4, .int (jz v4_16)), (5, .int (jz v5_16))] []) h (fun n16 hn16 v4_16 v5_16 h => ?_)
    refine r_iload C (pc := 16) dX9_isLeast_16 5 rfl ?_
    refine r_aload_n C (pc := 18) dX9_isLeast_18 rfl 0 rfl ?_
    refine r_get C (pc := 19) dX9_isLeast_19 gf_X9_isLeast_9 0 rfl rfl ?_
    refine r_icmp_ge C (pc := 22) 55 dX9_isLeast_22 rfl h (fun c22 h => ?_) (fun c22 h => ?_)
    · refine r_iload C (pc := 55) dX9_isLeast_55 4 rfl ?_
      refine r_if_ne C (pc := 57) 62 dX9_isLeast_57 rfl h (fun c57 h => ?_) (fun c57 h => ?_)
      · refine r_iinc C (pc := 62) dX9_isLeast_62 3 rfl (by decide) (L' := [(0, .ref (q 35)), (1, .ref a_p1), (2, .int (jz p2)), (3, .int (jz (v3_2 + 1))), (4, .int (jz v4_16)), (5, .int (jz v5_16))]) rfl ?_
        refine r_goto C (pc := 65) 2 dX9_isLeast_65 rfl ?_
        refine r_sub [0, 1, 2, 3] rfl ?_
        exact hn2 (v3_2 + 1) h
      · refine r_iconst C (pc := 60) dX9_isLeast_60 ?_
        exact r_iret C (pc := 61) dX9_isLeast_61 (hK 0 (wp_s h) (nB rfl).1)
    · refine r_iload C (pc := 25) dX9_isLeast_25 4 rfl ?_
      refine jn_e (fun (k47 : Int → Option Int) => ∀ (s0_47 : Int), wp (k47 s0_47) K → WW g 0 0 (w_X9_isLeast (xG g) q a_p1 n_p1 F c_this_far c_p1) 47 [(0, .ref (q 35)), (1, .ref a_p1), (2, .int (jz p2)), (3, .int (jz v3_2)), (5, .int (jz v5_16))] [.int (jz s0_47)]) h (fun s0_47 h => ?_) (fun k47 hk47 h => ?_)
      · refine r_istore C (pc := 47) dX9_isLeast_47 (by decide) (L' := [(0, .ref (q 35)), (1, .ref a_p1), (2, .int (jz p2)), (3, .int (jz v3_2)), (4, .int (jz s0_47)), (5, .int (jz v5_16))]) rfl ?_
        refine r_iinc C (pc := 49) dX9_isLeast_49 5 rfl (by decide) (L' := [(0, .ref (q 35)), (1, .ref a_p1), (2, .int (jz p2)), (3, .int (jz v3_2)), (4, .int (jz s0_47)), (5, .int (jz (v5_16 + 1)))]) rfl ?_
        refine r_goto C (pc := 52) 16 dX9_isLeast_52 rfl ?_
        exact hn16 s0_47 (v5_16 + 1) h
      · refine jn_e (fun (k42 : Option Int) => wp (k42) K → WW g 0 0 (w_X9_isLeast (xG g) q a_p1 n_p1 F c_this_far c_p1) 42 [(0, .ref (q 35)), (1, .ref a_p1), (2, .int (jz p2)), (3, .int (jz v3_2)), (5, .int (jz v5_16))] []) h (fun h => ?_) (fun k42 hk42 h => ?_)
        · refine r_iconst C (pc := 42) dX9_isLeast_42 ?_
          refine r_goto C (pc := 43) 47 dX9_isLeast_43 rfl ?_
          exact hk47 1 h
        · refine r_if_ne C (pc := 27) 42 dX9_isLeast_27 rfl h (fun c27 h => ?_) (fun c27 h => ?_)
          · refine r_sub [0, 1, 2, 3, 5] rfl ?_
            exact hk42 h
          · refine r_aload_n C (pc := 30) dX9_isLeast_30 rfl 0 rfl ?_
            refine r_aload_n C (pc := 31) dX9_isLeast_31 rfl 1 rfl ?_
            refine r_iload_n C (pc := 32) dX9_isLeast_32 rfl 2 rfl ?_
            refine r_iload_n C (pc := 33) dX9_isLeast_33 rfl 3 rfl ?_
            refine r_iload C (pc := 34) dX9_isLeast_34 5 rfl ?_
            obtain ⟨r36, e36, h⟩ := wp_b1 h
            refine b_cVi C (pc := 36) dX9_isLeast_36 (c_X9_isTight (xl g) (xG g) q a_p1 n_p1 F c_this_far c_p1 p2 v3_2 v5_16 r36 e36) rfl gX9_isLeast_X9_isTight ⟨rfl, rfl⟩ 4 hd_X9_isTight ⟨Nat.le_of_ble_eq_true rfl, Nat.le_of_ble_eq_true rfl⟩ rfl 0 rfl rfl rfl [0, 1, 2] rfl (srt_nd 0 rfl) (ws' := w_X9_isLeast (xG g) q a_p1 n_p1 F c_this_far c_p1) (Put.m rfl rfl rfl) rfl (rest := []) rfl (Nat.le_of_ble_eq_true rfl) ⟨Nat.zero_le _, Nat.zero_le _⟩ ?_
            refine r_if_eq C (pc := 39) 46 dX9_isLeast_39 rfl h (fun c39 h => ?_) (fun c39 h => ?_)
            · refine r_iconst C (pc := 46) dX9_isLeast_46 ?_
              refine r_sub [0, 1, 2, 3, 5] rfl ?_
              exact hk47 0 h
            · refine r_sub [0, 1, 2, 3, 5] rfl ?_
              exact hk42 h
theorem c_X9_isLeast (l : Launch) (G : gG) (q : Nat → Nat) (a_p1 : Nat) (n_p1 : Nat) (F : Nat → Int) (c_this_far : Nat → Int) (c_p1 : Nat → Int) (p2 : Int) (r : Int) (hf : f_X9_isLeast p2 n_p1 (F 0) c_this_far c_p1 = some r) : CTi l yX9_isLeast wsX9_isLeast rm_X9_isLeast G (w_X9_isLeast G q a_p1 n_p1 F c_this_far c_p1) [.ref (q 35), .ref a_p1, .int (jz p2)] (jz r) (w_X9_isLeast G q a_p1 n_p1 F c_this_far c_p1) := CTi_of (by decide) rfl rfl (Nat.le_of_ble_eq_true rfl) (fun g C hG hl hF => by
    subst hG
    subst hl
    exact k_X9_isLeast C q a_p1 n_p1 F c_this_far c_p1 p2 (fun x => x = r) (fun r' e => by cases e; exact hF) ⟨_, hf, rfl⟩)

-- TightHullsModel.reached([IIII)I
def f_X9_reached (p2 : Int) (p3 : Int) (p4 : Int) (n_p1 : Nat) (m_points : Int) (c_this_far : Nat → Int) (c_p1 : Nat → Int) : Option Int := lv ((shlI 1 p3)) (fun x3 => lq3 (fun (n11 : Int → Int → Int → Option Int) (v5_11 : Int) (v6_11 : Int) (v7_11 : Int) => if ltI v7_11 10 = true then (lq3 (fun (n21 : Int → Int → Int → Option Int) (v5_21 : Int) (v6_21 : Int) (v8_21 : Int) => if ltI v8_21 m_points = true then (lq3 (fun (n33 : Int → Int → Int → Option Int) (v5_33 : Int) (v6_33 : Int) (v9_33 : Int) => if ltI v9_33 m_points = true then (bd1 (f_X9_isTight p2 v8_21 v9_33 n_p1 c_this_far c_p1) (fun r49 => jn (fun (v5_85 : Int) (v6_85 : Int) => n33 v5_85 v6_85 (v9_33 + 1)) (fun (k85 : Int → Int → Option Int) => if eqI r49 0 = true then (k85 v5_33 v6_33) else (lv ((orI v6_33 (shlI (andI (shrI v5_33 v8_21) 1) v9_33))) (fun x68 => lv ((orI v5_33 (shlI (andI (shrI x68 v8_21) 1) v9_33))) (fun x83 => k85 x83 x68)))))) else (n21 v5_33 v6_33 (v8_21 + 1))) 300 v5_21 v6_21 0) else (n11 v5_21 v6_21 (v7_11 + 1))) 300 v5_11 v6_11 0) else (jn (fun (s0_116 : Int) => some s0_116) (fun (k116 : Int → Option Int) => if eqI p4 1 = true then (k116 v6_11) else (k116 v5_11)))) 300 x3 0 0)
abbrev rm_X9_reached : Room := { frames := 2, cells := 0, slots := 0, locals := 46 }
abbrev w_X9_reached (G : gG) (q : Nat → Nat) (a_p1 : Nat) (n_p1 : Nat) (F : Nat → Int) (c_this_far : Nat → Int) (c_p1 : Nat → Int) : va_W := [((q 35), oX9 F q), ((q 1), aI G 25 c_this_far), (a_p1, aI G n_p1 c_p1)]
theorem hd_X9_reached : yX9_reached.cls = RX9 ∧ yX9_reached.cls ≠ "java/lang/invoke/MethodHandle" ∧ yX9_reached.cls ≠ "java/lang/invoke/VarHandle" ∧ (parseMethodDescriptor yX9_reached.desc).map (fun d => d.parameters.length) = some 4 := by decide +kernel
theorem in_X9_reached_X9 : ∀ w ∈ u_ws RX9 TX9 35, w ∈ wsX9_reached := fun w h => List.mem_cons_of_mem _ (List.mem_append_right _ (h))
theorem gf_X9_reached_9 : GF wsX9_reached RX9 9 8 0 := ⟨RX9, TX9, 35, rfl, in_X9_reached_X9, by decide, List.mem_of_getElem? (i := 1) rfl⟩
set_option maxRecDepth 100000 in
set_option maxHeartbeats 4000000 in
theorem k_X9_reached {g : XC} (C : XOk g cX9_reached RX9 wsX9_reached rm_X9_reached 10) (q : Nat → Nat) (a_p1 : Nat) (n_p1 : Nat) (F : Nat → Int) (c_this_far : Nat → Int) (c_p1 : Nat → Int) (p2 : Int) (p3 : Int) (p4 : Int) (K : Int → Prop) (hK : ∀ (r : Int), K r → (narrow .int (.int (jz r)) = .int (jz r) → FinI g 0 0 (w_X9_reached (xG g) q a_p1 n_p1 F c_this_far c_p1) (jz r))) (h : wp (f_X9_reached p2 p3 p4 n_p1 (F 0) c_this_far c_p1) K) : WW g 0 0 (w_X9_reached (xG g) q a_p1 n_p1 F c_this_far c_p1) 0 [(0, .ref (q 35)), (1, .ref a_p1), (2, .int (jz p2)), (3, .int (jz p3)), (4, .int (jz p4))] [] := by
  unfold f_X9_reached at h
  refine r_iconst C (pc := 0) dX9_reached_0 ?_
  refine r_iload_n C (pc := 1) dX9_reached_1 rfl 3 rfl ?_
  refine r_ishl C (pc := 2) dX9_reached_2 ?_
  refine r_let h (fun x3 h => ?_)
  refine r_istore C (pc := 3) dX9_reached_3 (by decide) (L' := [(0, .ref (q 35)), (1, .ref a_p1), (2, .int (jz p2)), (3, .int (jz p3)), (4, .int (jz p4)), (5, .int (jz x3))]) rfl ?_
  refine r_iconst C (pc := 5) dX9_reached_5 ?_
  refine r_istore C (pc := 6) dX9_reached_6 (by decide) (L' := [(0, .ref (q 35)), (1, .ref a_p1), (2, .int (jz p2)), (3, .int (jz p3)), (4, .int (jz p4)), (5, .int (jz x3)), (6, .int (jz 0))]) rfl ?_
  refine r_iconst C (pc := 8) dX9_reached_8 ?_
  refine r_istore C (pc := 9) dX9_reached_9 (by decide) (L' := [(0, .ref (q 35)), (1, .ref a_p1), (2, .int (jz p2)), (3, .int (jz p3)), (4, .int (jz p4)), (5, .int (jz x3)), (6, .int (jz 0)), (7, .int (jz 0))]) rfl ?_
  refine r_sub [0, 1, 2, 4, 5, 6, 7] rfl ?_
  refine lq3_e (fun (v5_11 : Int) (v6_11 : Int) (v7_11 : Int) => WW g 0 0 (w_X9_reached (xG g) q a_p1 n_p1 F c_this_far c_p1) 11 [(0, .ref (q 35)), (1, .ref a_p1), (2, .int (jz p2)), (4, .int (jz p4)), (5, .int (jz v5_11)), (6, .int (jz v6_11)), (7, .int (jz v7_11))] []) h (fun n11 hn11 v5_11 v6_11 v7_11 h => ?_)
  refine r_iload C (pc := 11) dX9_reached_11 6 rfl ?_
  refine r_bipush C (pc := 13) dX9_reached_13 rfl ?_
  refine r_icmp_ge C (pc := 15) 103 dX9_reached_15 rfl h (fun c15 h => ?_) (fun c15 h => ?_)
  · refine r_iload C (pc := 103) dX9_reached_103 3 rfl ?_
    refine r_iconst C (pc := 105) dX9_reached_105 ?_
    refine jn_e (fun (k116 : Int → Option Int) => ∀ (s0_116 : Int), wp (k116 s0_116) K → WW g 0 0 (w_X9_reached (xG g) q a_p1 n_p1 F c_this_far c_p1) 116 [] [.int (jz s0_116)]) h (fun s0_116 h => ?_) (fun k116 hk116 h => ?_)
    · exact r_iret C (pc := 116) dX9_reached_116 (hK s0_116 (wp_s h) rfl)
    · refine r_icmp_ne C (pc := 106) 114 dX9_reached_106 rfl h (fun c106 h => ?_) (fun c106 h => ?_)
      · refine r_iload C (pc := 114) dX9_reached_114 4 rfl ?_
        refine r_sub [] rfl ?_
        exact hk116 v5_11 h
      · refine r_iload C (pc := 109) dX9_reached_109 5 rfl ?_
        refine r_goto C (pc := 111) 116 dX9_reached_111 rfl ?_
        refine r_sub [] rfl ?_
        exact hk116 v6_11 h
  · refine r_iconst C (pc := 18) dX9_reached_18 ?_
    refine r_istore C (pc := 19) dX9_reached_19 (by decide) (L' := [(0, .ref (q 35)), (1, .ref a_p1), (2, .int (jz p2)), (4, .int (jz p4)), (5, .int (jz v5_11)), (6, .int (jz v6_11)), (7, .int (jz v7_11)), (8, .int (jz 0))]) rfl ?_
    refine lq3_e (fun (v5_21 : Int) (v6_21 : Int) (v8_21 : Int) => WW g 0 0 (w_X9_reached (xG g) q a_p1 n_p1 F c_this_far c_p1) 21 [(0, .ref (q 35)), (1, .ref a_p1), (2, .int (jz p2)), (4, .int (jz p4)), (5, .int (jz v5_21)), (6, .int (jz v6_21)), (7, .int (jz v7_11)), (8, .int (jz v8_21))] []) h (fun n21 hn21 v5_21 v6_21 v8_21 h => ?_)
    refine r_iload C (pc := 21) dX9_reached_21 7 rfl ?_
    refine r_aload_n C (pc := 23) dX9_reached_23 rfl 0 rfl ?_
    refine r_get C (pc := 24) dX9_reached_24 gf_X9_reached_9 0 rfl rfl ?_
    refine r_icmp_ge C (pc := 27) 97 dX9_reached_27 rfl h (fun c27 h => ?_) (fun c27 h => ?_)
    · refine r_iinc C (pc := 97) dX9_reached_97 6 rfl (by decide) (L' := [(0, .ref (q 35)), (1, .ref a_p1), (2, .int (jz p2)), (4, .int (jz p4)), (5, .int (jz v5_21)), (6, .int (jz v6_21)), (7, .int (jz (v7_11 + 1))), (8, .int (jz v8_21))]) rfl ?_
      refine r_goto C (pc := 100) 11 dX9_reached_100 rfl ?_
      refine r_sub [0, 1, 2, 3, 4, 5, 6] rfl ?_
      exact hn11 v5_21 v6_21 (v7_11 + 1) h
    · refine r_iconst C (pc := 30) dX9_reached_30 ?_
      refine r_istore C (pc := 31) dX9_reached_31 (by decide) (L' := [(0, .ref (q 35)), (1, .ref a_p1), (2, .int (jz p2)), (4, .int (jz p4)), (5, .int (jz v5_21)), (6, .int (jz v6_21)), (7, .int (jz v7_11)), (8, .int (jz v8_21)), (9, .int (jz 0))]) rfl ?_
      refine lq3_e (fun (v5_33 : Int) (v6_33 : Int) (v9_33 : Int) => WW g 0 0 (w_X9_reached (xG g) q a_p1 n_p1 F c_this_far c_p1) 33 [(0, .ref (q 35)), (1, .ref a_p1), (2, .int (jz p2)), (4, .int (jz p4)), (5, .int (jz v5_33)), (6, .int (jz v6_33)), (7, .int (jz v7_11)), (8, .int (jz v8_21)), (9, .int (jz v9_33))] []) h (fun n33 hn33 v5_33 v6_33 v9_33 h => ?_)
      refine r_iload C (pc := 33) dX9_reached_33 8 rfl ?_
      refine r_aload_n C (pc := 35) dX9_reached_35 rfl 0 rfl ?_
      refine r_get C (pc := 36) dX9_reached_36 gf_X9_reached_9 0 rfl rfl ?_
      refine r_icmp_ge C (pc := 39) 91 dX9_reached_39 rfl h (fun c39 h => ?_) (fun c39 h => ?_)
      · refine r_iinc C (pc := 91) dX9_reached_91 7 rfl (by decide) (L' := [(0, .ref (q 35)), (1, .ref a_p1), (2, .int (jz p2)), (4, .int (jz p4)), (5, .int (jz v5_33)), (6, .int (jz v6_33)), (7, .int (jz v7_11)), (8, .int (jz (v8_21 + 1))), (9, .int (jz v9_33))]) rfl ?_
        refine r_goto C (pc := 94) 21 dX9_reached_94 rfl ?_
        refine r_sub [0, 1, 2, 3, 4, 5, 6, 7] rfl ?_
        exact hn21 v5_33 v6_33 (v8_21 + 1) h
      · refine r_aload_n C (pc := 42) dX9_reached_42 rfl 0 rfl ?_
        refine r_aload_n C (pc := 43) dX9_reached_43 rfl 1 rfl ?_
        refine r_iload_n C (pc := 44) dX9_reached_44 rfl 2 rfl ?_
        refine r_iload C (pc := 45) dX9_reached_45 7 rfl ?_
        refine r_iload C (pc := 47) dX9_reached_47 8 rfl ?_
        obtain ⟨r49, e49, h⟩ := wp_b1 h
        refine b_cVi C (pc := 49) dX9_reached_49 (c_X9_isTight (xl g) (xG g) q a_p1 n_p1 F c_this_far c_p1 p2 v8_21 v9_33 r49 e49) rfl gX9_reached_X9_isTight ⟨rfl, rfl⟩ 4 hd_X9_isTight ⟨Nat.le_of_ble_eq_true rfl, Nat.le_of_ble_eq_true rfl⟩ rfl 0 rfl rfl rfl [0, 1, 2] rfl (srt_nd 0 rfl) (ws' := w_X9_reached (xG g) q a_p1 n_p1 F c_this_far c_p1) (Put.m rfl rfl rfl) rfl (rest := []) rfl (Nat.le_of_ble_eq_true rfl) ⟨Nat.zero_le _, Nat.zero_le _⟩ ?_
        refine jn_e (fun (k85 : Int → Int → Option Int) => ∀ (v5_85 : Int) (v6_85 : Int), wp (k85 v5_85 v6_85) K → WW g 0 0 (w_X9_reached (xG g) q a_p1 n_p1 F c_this_far c_p1) 85 [(0, .ref (q 35)), (1, .ref a_p1), (2, .int (jz p2)), (4, .int (jz p4)), (5, .int (jz v5_85)), (6, .int (jz v6_85)), (7, .int (jz v7_11)), (8, .int (jz v8_21)), (9, .int (jz v9_33))] []) h (fun v5_85 v6_85 h => ?_) (fun k85 hk85 h => ?_)
        · refine r_iinc C (pc := 85) dX9_reached_85 8 rfl (by decide) (L' := [(0, .ref (q 35)), (1, .ref a_p1), (2, .int (jz p2)), (4, .int (jz p4)), (5, .int (jz v5_85)), (6, .int (jz v6_85)), (7, .int (jz v7_11)), (8, .int (jz v8_21)), (9, .int (jz (v9_33 + 1)))]) rfl ?_
          refine r_goto C (pc := 88) 33 dX9_reached_88 rfl ?_
          exact hn33 v5_85 v6_85 (v9_33 + 1) h
        · refine r_if_eq C (pc := 52) 85 dX9_reached_52 rfl h (fun c52 h => ?_) (fun c52 h => ?_)
          · exact hk85 v5_33 v6_33 h
          · refine r_iload C (pc := 55) dX9_reached_55 5 rfl ?_
            refine r_iload C (pc := 57) dX9_reached_57 4 rfl ?_
            refine r_iload C (pc := 59) dX9_reached_59 7 rfl ?_
            refine r_ishr C (pc := 61) dX9_reached_61 ?_
            refine r_iconst C (pc := 62) dX9_reached_62 ?_
            refine r_iand C (pc := 63) dX9_reached_63 ?_
            refine r_iload C (pc := 64) dX9_reached_64 8 rfl ?_
            refine r_ishl C (pc := 66) dX9_reached_66 ?_
            refine r_ior C (pc := 67) dX9_reached_67 ?_
            refine r_let h (fun x68 h => ?_)
            refine r_istore C (pc := 68) dX9_reached_68 (by decide) (L' := [(0, .ref (q 35)), (1, .ref a_p1), (2, .int (jz p2)), (4, .int (jz p4)), (5, .int (jz v5_33)), (6, .int (jz x68)), (7, .int (jz v7_11)), (8, .int (jz v8_21)), (9, .int (jz v9_33))]) rfl ?_
            refine r_iload C (pc := 70) dX9_reached_70 4 rfl ?_
            refine r_iload C (pc := 72) dX9_reached_72 5 rfl ?_
            refine r_iload C (pc := 74) dX9_reached_74 7 rfl ?_
            refine r_ishr C (pc := 76) dX9_reached_76 ?_
            refine r_iconst C (pc := 77) dX9_reached_77 ?_
            refine r_iand C (pc := 78) dX9_reached_78 ?_
            refine r_iload C (pc := 79) dX9_reached_79 8 rfl ?_
            refine r_ishl C (pc := 81) dX9_reached_81 ?_
            refine r_ior C (pc := 82) dX9_reached_82 ?_
            refine r_let h (fun x83 h => ?_)
            refine r_istore C (pc := 83) dX9_reached_83 (by decide) (L' := [(0, .ref (q 35)), (1, .ref a_p1), (2, .int (jz p2)), (4, .int (jz p4)), (5, .int (jz x83)), (6, .int (jz x68)), (7, .int (jz v7_11)), (8, .int (jz v8_21)), (9, .int (jz v9_33))]) rfl ?_
            exact hk85 x83 x68 h
theorem c_X9_reached (l : Launch) (G : gG) (q : Nat → Nat) (a_p1 : Nat) (n_p1 : Nat) (F : Nat → Int) (c_this_far : Nat → Int) (c_p1 : Nat → Int) (p2 : Int) (p3 : Int) (p4 : Int) (r : Int) (hf : f_X9_reached p2 p3 p4 n_p1 (F 0) c_this_far c_p1 = some r) : CTi l yX9_reached wsX9_reached rm_X9_reached G (w_X9_reached G q a_p1 n_p1 F c_this_far c_p1) [.ref (q 35), .ref a_p1, .int (jz p2), .int (jz p3), .int (jz p4)] (jz r) (w_X9_reached G q a_p1 n_p1 F c_this_far c_p1) := CTi_of (by decide) rfl rfl (Nat.le_of_ble_eq_true rfl) (fun g C hG hl hF => by
    subst hG
    subst hl
    exact k_X9_reached C q a_p1 n_p1 F c_this_far c_p1 p2 p3 p4 (fun x => x = r) (fun r' e => by cases e; exact hF) ⟨_, hf, rfl⟩)

-- TightHullsModel.depth([II)I
def f_X9_depth (p2 : Int) (n_p1 : Nat) (m_points : Int) (c_this_far : Nat → Int) (c_p1 : Nat → Int) : Option Int := lq4 (fun (n11 : Int → Int → Int → Int → Option Int) (v3_11 : Int) (v4_11 : Int) (v5_11 : Int) (v6_11 : Int) => if ltI v6_11 m_points = true then (jn (fun (v3_90 : Int) (v4_90 : Int) (v5_90 : Int) => n11 v3_90 v4_90 v5_90 (v6_11 + 1)) (fun (k90 : Int → Int → Int → Option Int) => if eqI (andI (shrI v5_11 v6_11) 1) 1 = true then (k90 v3_11 v4_11 v5_11) else (bd1 (f_X9_reached p2 v6_11 0 n_p1 m_points c_this_far c_p1) (fun r40 => bd1 (f_X9_reached p2 v6_11 1 n_p1 m_points c_this_far c_p1) (fun r51 => lv ((orI v5_11 (orI r40 r51))) (fun x64 => jn (fun (s1_87 : Int) => lv ((v4_11 + s1_87)) (fun x88 => k90 (v3_11 + 1) x88 x64)) (fun (k87 : Int → Option Int) => if eqI (andI (shrI r51 v6_11) 1) 1 = true then (k87 1) else (k87 0)))))))) else (some (v3_11 - v4_11))) 300 0 0 0 0
abbrev rm_X9_depth : Room := { frames := 3, cells := 0, slots := 0, locals := 75 }
abbrev w_X9_depth (G : gG) (q : Nat → Nat) (a_p1 : Nat) (n_p1 : Nat) (F : Nat → Int) (c_this_far : Nat → Int) (c_p1 : Nat → Int) : va_W := [((q 35), oX9 F q), ((q 1), aI G 25 c_this_far), (a_p1, aI G n_p1 c_p1)]
theorem hd_X9_depth : yX9_depth.cls = RX9 ∧ yX9_depth.cls ≠ "java/lang/invoke/MethodHandle" ∧ yX9_depth.cls ≠ "java/lang/invoke/VarHandle" ∧ (parseMethodDescriptor yX9_depth.desc).map (fun d => d.parameters.length) = some 2 := by decide +kernel
theorem in_X9_depth_X9 : ∀ w ∈ u_ws RX9 TX9 35, w ∈ wsX9_depth := fun w h => List.mem_cons_of_mem _ (List.mem_append_right _ (h))
theorem gf_X9_depth_9 : GF wsX9_depth RX9 9 8 0 := ⟨RX9, TX9, 35, rfl, in_X9_depth_X9, by decide, List.mem_of_getElem? (i := 1) rfl⟩
set_option maxRecDepth 100000 in
set_option maxHeartbeats 4000000 in
theorem k_X9_depth {g : XC} (C : XOk g cX9_depth RX9 wsX9_depth rm_X9_depth 9) (q : Nat → Nat) (a_p1 : Nat) (n_p1 : Nat) (F : Nat → Int) (c_this_far : Nat → Int) (c_p1 : Nat → Int) (p2 : Int) (K : Int → Prop) (hK : ∀ (r : Int), K r → (narrow .int (.int (jz r)) = .int (jz r) → FinI g 0 0 (w_X9_depth (xG g) q a_p1 n_p1 F c_this_far c_p1) (jz r))) (h : wp (f_X9_depth p2 n_p1 (F 0) c_this_far c_p1) K) : WW g 0 0 (w_X9_depth (xG g) q a_p1 n_p1 F c_this_far c_p1) 0 [(0, .ref (q 35)), (1, .ref a_p1), (2, .int (jz p2))] [] := by
  unfold f_X9_depth at h
  refine r_iconst C (pc := 0) dX9_depth_0 ?_
  refine r_istore_n C (pc := 1) dX9_depth_1 rfl (by decide) (L' := [(0, .ref (q 35)), (1, .ref a_p1), (2, .int (jz p2)), (3, .int (jz 0))]) rfl ?_
  refine r_iconst C (pc := 2) dX9_depth_2 ?_
  refine r_istore C (pc := 3) dX9_depth_3 (by decide) (L' := [(0, .ref (q 35)), (1, .ref a_p1), (2, .int (jz p2)), (3, .int (jz 0)), (4, .int (jz 0))]) rfl ?_
  refine r_iconst C (pc := 5) dX9_depth_5 ?_
  refine r_istore C (pc := 6) dX9_depth_6 (by decide) (L' := [(0, .ref (q 35)), (1, .ref a_p1), (2, .int (jz p2)), (3, .int (jz 0)), (4, .int (jz 0)), (5, .int (jz 0))]) rfl ?_
  refine r_iconst C (pc := 8) dX9_depth_8 ?_
  refine r_istore C (pc := 9) dX9_depth_9 (by decide) (L' := [(0, .ref (q 35)), (1, .ref a_p1), (2, .int (jz p2)), (3, .int (jz 0)), (4, .int (jz 0)), (5, .int (jz 0)), (6, .int (jz 0))]) rfl ?_
  refine lq4_e (fun (v3_11 : Int) (v4_11 : Int) (v5_11 : Int) (v6_11 : Int) => WW g 0 0 (w_X9_depth (xG g) q a_p1 n_p1 F c_this_far c_p1) 11 [(0, .ref (q 35)), (1, .ref a_p1), (2, .int (jz p2)), (3, .int (jz v3_11)), (4, .int (jz v4_11)), (5, .int (jz v5_11)), (6, .int (jz v6_11))] []) h (fun n11 hn11 v3_11 v4_11 v5_11 v6_11 h => ?_)
  refine r_iload C (pc := 11) dX9_depth_11 6 rfl ?_
  refine r_aload_n C (pc := 13) dX9_depth_13 rfl 0 rfl ?_
  refine r_get C (pc := 14) dX9_depth_14 gf_X9_depth_9 0 rfl rfl ?_
  refine r_icmp_ge C (pc := 17) 96 dX9_depth_17 rfl h (fun c17 h => ?_) (fun c17 h => ?_)
  · refine r_iload_n C (pc := 96) dX9_depth_96 rfl 3 rfl ?_
    refine r_iload C (pc := 97) dX9_depth_97 4 rfl ?_
    refine r_isub C (pc := 99) dX9_depth_99 ?_
    exact r_iret C (pc := 100) dX9_depth_100 (hK (v3_11 - v4_11) (wp_s h) rfl)
  · refine r_iload C (pc := 20) dX9_depth_20 5 rfl ?_
    refine r_iload C (pc := 22) dX9_depth_22 6 rfl ?_
    refine r_ishr C (pc := 24) dX9_depth_24 ?_
    refine r_iconst C (pc := 25) dX9_depth_25 ?_
    refine r_iand C (pc := 26) dX9_depth_26 ?_
    refine r_iconst C (pc := 27) dX9_depth_27 ?_
    refine jn_e (fun (k90 : Int → Int → Int → Option Int) => ∀ (v3_90 : Int) (v4_90 : Int) (v5_90 : Int), wp (k90 v3_90 v4_90 v5_90) K → WW g 0 0 (w_X9_depth (xG g) q a_p1 n_p1 F c_this_far c_p1) 90 [(0, .ref (q 35)), (1, .ref a_p1), (2, .int (jz p2)), (3, .int (jz v3_90)), (4, .int (jz v4_90)), (5, .int (jz v5_90)), (6, .int (jz v6_11))] []) h (fun v3_90 v4_90 v5_90 h => ?_) (fun k90 hk90 h => ?_)
    · refine r_iinc C (pc := 90) dX9_depth_90 6 rfl (by decide) (L' := [(0, .ref (q 35)), (1, .ref a_p1), (2, .int (jz p2)), (3, .int (jz v3_90)), (4, .int (jz v4_90)), (5, .int (jz v5_90)), (6, .int (jz (v6_11 + 1)))]) rfl ?_
      refine r_goto C (pc := 93) 11 dX9_depth_93 rfl ?_
      exact hn11 v3_90 v4_90 v5_90 (v6_11 + 1) h
    · refine r_icmp_ne C (pc := 28) 34 dX9_depth_28 rfl h (fun c28 h => ?_) (fun c28 h => ?_)
      · refine r_aload_n C (pc := 34) dX9_depth_34 rfl 0 rfl ?_
        refine r_aload_n C (pc := 35) dX9_depth_35 rfl 1 rfl ?_
        refine r_iload_n C (pc := 36) dX9_depth_36 rfl 2 rfl ?_
        refine r_iload C (pc := 37) dX9_depth_37 6 rfl ?_
        refine r_iconst C (pc := 39) dX9_depth_39 ?_
        obtain ⟨r40, e40, h⟩ := wp_b1 h
        refine b_cVi C (pc := 40) dX9_depth_40 (c_X9_reached (xl g) (xG g) q a_p1 n_p1 F c_this_far c_p1 p2 v6_11 0 r40 e40) rfl gX9_depth_X9_reached ⟨rfl, rfl⟩ 4 hd_X9_reached ⟨Nat.le_of_ble_eq_true rfl, Nat.le_of_ble_eq_true rfl⟩ rfl 0 rfl rfl rfl [0, 1, 2] rfl (srt_nd 0 rfl) (ws' := w_X9_depth (xG g) q a_p1 n_p1 F c_this_far c_p1) (Put.m rfl rfl rfl) rfl (rest := []) rfl (Nat.le_of_ble_eq_true rfl) ⟨Nat.zero_le _, Nat.zero_le _⟩ ?_
        refine r_istore C (pc := 43) dX9_depth_43 (by decide) (L' := [(0, .ref (q 35)), (1, .ref a_p1), (2, .int (jz p2)), (3, .int (jz v3_11)), (4, .int (jz v4_11)), (5, .int (jz v5_11)), (6, .int (jz v6_11)), (7, .int (jz r40))]) rfl ?_
        refine r_aload_n C (pc := 45) dX9_depth_45 rfl 0 rfl ?_
        refine r_aload_n C (pc := 46) dX9_depth_46 rfl 1 rfl ?_
        refine r_iload_n C (pc := 47) dX9_depth_47 rfl 2 rfl ?_
        refine r_iload C (pc := 48) dX9_depth_48 6 rfl ?_
        refine r_iconst C (pc := 50) dX9_depth_50 ?_
        obtain ⟨r51, e51, h⟩ := wp_b1 h
        refine b_cVi C (pc := 51) dX9_depth_51 (c_X9_reached (xl g) (xG g) q a_p1 n_p1 F c_this_far c_p1 p2 v6_11 1 r51 e51) rfl gX9_depth_X9_reached ⟨rfl, rfl⟩ 4 hd_X9_reached ⟨Nat.le_of_ble_eq_true rfl, Nat.le_of_ble_eq_true rfl⟩ rfl 0 rfl rfl rfl [0, 1, 2] rfl (srt_nd 0 rfl) (ws' := w_X9_depth (xG g) q a_p1 n_p1 F c_this_far c_p1) (Put.m rfl rfl rfl) rfl (rest := []) rfl (Nat.le_of_ble_eq_true rfl) ⟨Nat.zero_le _, Nat.zero_le _⟩ ?_
        refine r_istore C (pc := 54) dX9_depth_54 (by decide) (L' := [(0, .ref (q 35)), (1, .ref a_p1), (2, .int (jz p2)), (3, .int (jz v3_11)), (4, .int (jz v4_11)), (5, .int (jz v5_11)), (6, .int (jz v6_11)), (7, .int (jz r40)), (8, .int (jz r51))]) rfl ?_
        refine r_iload C (pc := 56) dX9_depth_56 5 rfl ?_
        refine r_iload C (pc := 58) dX9_depth_58 7 rfl ?_
        refine r_iload C (pc := 60) dX9_depth_60 8 rfl ?_
        refine r_ior C (pc := 62) dX9_depth_62 ?_
        refine r_ior C (pc := 63) dX9_depth_63 ?_
        refine r_let h (fun x64 h => ?_)
        refine r_istore C (pc := 64) dX9_depth_64 (by decide) (L' := [(0, .ref (q 35)), (1, .ref a_p1), (2, .int (jz p2)), (3, .int (jz v3_11)), (4, .int (jz v4_11)), (5, .int (jz x64)), (6, .int (jz v6_11)), (7, .int (jz r40)), (8, .int (jz r51))]) rfl ?_
        refine r_iinc C (pc := 66) dX9_depth_66 3 rfl (by decide) (L' := [(0, .ref (q 35)), (1, .ref a_p1), (2, .int (jz p2)), (3, .int (jz (v3_11 + 1))), (4, .int (jz v4_11)), (5, .int (jz x64)), (6, .int (jz v6_11)), (7, .int (jz r40)), (8, .int (jz r51))]) rfl ?_
        refine r_iload C (pc := 69) dX9_depth_69 4 rfl ?_
        refine r_iload C (pc := 71) dX9_depth_71 8 rfl ?_
        refine r_iload C (pc := 73) dX9_depth_73 6 rfl ?_
        refine r_ishr C (pc := 75) dX9_depth_75 ?_
        refine r_iconst C (pc := 76) dX9_depth_76 ?_
        refine r_iand C (pc := 77) dX9_depth_77 ?_
        refine r_iconst C (pc := 78) dX9_depth_78 ?_
        refine jn_e (fun (k87 : Int → Option Int) => ∀ (s1_87 : Int), wp (k87 s1_87) K → WW g 0 0 (w_X9_depth (xG g) q a_p1 n_p1 F c_this_far c_p1) 87 [(0, .ref (q 35)), (1, .ref a_p1), (2, .int (jz p2)), (3, .int (jz (v3_11 + 1))), (5, .int (jz x64)), (6, .int (jz v6_11))] [.int (jz s1_87), .int (jz v4_11)]) h (fun s1_87 h => ?_) (fun k87 hk87 h => ?_)
        · refine r_iadd C (pc := 87) dX9_depth_87 ?_
          refine r_let h (fun x88 h => ?_)
          refine r_istore C (pc := 88) dX9_depth_88 (by decide) (L' := [(0, .ref (q 35)), (1, .ref a_p1), (2, .int (jz p2)), (3, .int (jz (v3_11 + 1))), (4, .int (jz x88)), (5, .int (jz x64)), (6, .int (jz v6_11))]) rfl ?_
          exact hk90 (v3_11 + 1) x88 x64 h
        · refine r_icmp_ne C (pc := 79) 86 dX9_depth_79 rfl h (fun c79 h => ?_) (fun c79 h => ?_)
          · refine r_iconst C (pc := 86) dX9_depth_86 ?_
            refine r_sub [0, 1, 2, 3, 5, 6] rfl ?_
            exact hk87 0 h
          · refine r_iconst C (pc := 82) dX9_depth_82 ?_
            refine r_goto C (pc := 83) 87 dX9_depth_83 rfl ?_
            refine r_sub [0, 1, 2, 3, 5, 6] rfl ?_
            exact hk87 1 h
      · refine r_goto C (pc := 31) 90 dX9_depth_31 rfl ?_
        exact hk90 v3_11 v4_11 v5_11 h
theorem c_X9_depth (l : Launch) (G : gG) (q : Nat → Nat) (a_p1 : Nat) (n_p1 : Nat) (F : Nat → Int) (c_this_far : Nat → Int) (c_p1 : Nat → Int) (p2 : Int) (r : Int) (hf : f_X9_depth p2 n_p1 (F 0) c_this_far c_p1 = some r) : CTi l yX9_depth wsX9_depth rm_X9_depth G (w_X9_depth G q a_p1 n_p1 F c_this_far c_p1) [.ref (q 35), .ref a_p1, .int (jz p2)] (jz r) (w_X9_depth G q a_p1 n_p1 F c_this_far c_p1) := CTi_of (by decide) rfl rfl (Nat.le_of_ble_eq_true rfl) (fun g C hG hl hF => by
    subst hG
    subst hl
    exact k_X9_depth C q a_p1 n_p1 F c_this_far c_p1 p2 (fun x => x = r) (fun r' e => by cases e; exact hF) ⟨_, hf, rfl⟩)

-- TightHullsModel.functionOf(I)I
def f_X9_functionOf (p1 : Int) (m_points : Int) (c_this_far : Nat → Int) (c_this_number : Nat → Int) : Option Int := bd1 (f_X9_isPoint p1 m_points) (fun r2 => if eqI r2 0 = true then (if eqI p1 10 = true then (bd1 (f_X9_keeps 0 5 m_points c_this_far c_this_number) (fun r50 => jn (fun (s0_61 : Int) => some s0_61) (fun (k61 : Int → Option Int) => if eqI r50 0 = true then (k61 0) else (k61 1)))) else (if eqI p1 11 = true then (bd1 (f_X9_isLeast 0 5 m_points c_this_far c_this_number) (fun r68 => jn (fun (s0_79 : Int) => some s0_79) (fun (k79 : Int → Option Int) => if eqI r68 0 = true then (k79 0) else (k79 1)))) else (if eqI p1 12 = true then (bd1 (f_X9_isLeast 0 5 m_points c_this_far c_this_number) (fun r86 => jn (fun (s0_106 : Int) => some s0_106) (fun (k106 : Int → Option Int) => if eqI r86 0 = true then (k106 (-5)) else (bd1 (f_X9_depth 0 5 m_points c_this_far c_this_number) (fun r98 => k106 r98))))) else (some (-1))))) else (grd (iin p1 5) (some (c_this_number (ix p1)))))
abbrev rm_X9_functionOf : Room := { frames := 4, cells := 0, slots := 0, locals := 103 }
abbrev w_X9_functionOf (G : gG) (q : Nat → Nat) (F : Nat → Int) (c_this_far : Nat → Int) (c_this_number : Nat → Int) : va_W := [((q 35), oX9 F q), ((q 1), aI G 25 c_this_far), ((q 2), aI G 5 c_this_number)]
theorem hd_X9_functionOf : yX9_functionOf.cls = RX9 ∧ yX9_functionOf.cls ≠ "java/lang/invoke/MethodHandle" ∧ yX9_functionOf.cls ≠ "java/lang/invoke/VarHandle" ∧ (parseMethodDescriptor yX9_functionOf.desc).map (fun d => d.parameters.length) = some 1 := by decide +kernel
theorem in_X9_functionOf_X9 : ∀ w ∈ u_ws RX9 TX9 35, w ∈ wsX9_functionOf := fun w h => List.mem_cons_of_mem _ (List.mem_append_right _ (h))
theorem gf_X9_functionOf_19 : GF wsX9_functionOf RX9 19 8 2 := ⟨RX9, TX9, 35, rfl, in_X9_functionOf_X9, by decide, List.mem_of_getElem? (i := 1) rfl⟩
set_option maxRecDepth 100000 in
set_option maxHeartbeats 4000000 in
theorem k_X9_functionOf {g : XC} (C : XOk g cX9_functionOf RX9 wsX9_functionOf rm_X9_functionOf 2) (q : Nat → Nat) (F : Nat → Int) (c_this_far : Nat → Int) (c_this_number : Nat → Int) (p1 : Int) (K : Int → Prop) (hK : ∀ (r : Int), K r → (narrow .int (.int (jz r)) = .int (jz r) → FinI g 0 0 (w_X9_functionOf (xG g) q F c_this_far c_this_number) (jz r))) (h : wp (f_X9_functionOf p1 (F 0) c_this_far c_this_number) K) : WW g 0 0 (w_X9_functionOf (xG g) q F c_this_far c_this_number) 0 [(0, .ref (q 35)), (1, .int (jz p1))] [] := by
  unfold f_X9_functionOf at h
  refine r_aload_n C (pc := 0) dX9_functionOf_0 rfl 0 rfl ?_
  refine r_iload_n C (pc := 1) dX9_functionOf_1 rfl 1 rfl ?_
  obtain ⟨r2, e2, h⟩ := wp_b1 h
  refine b_cVi C (pc := 2) dX9_functionOf_2 (c_X9_isPoint (xl g) (xG g) q F p1 r2 e2) rfl gX9_functionOf_X9_isPoint ⟨rfl, rfl⟩ 1 hd_X9_isPoint ⟨Nat.le_of_ble_eq_true rfl, Nat.le_of_ble_eq_true rfl⟩ rfl 0 rfl rfl rfl [0] rfl (srt_nd 0 rfl) (ws' := w_X9_functionOf (xG g) q F c_this_far c_this_number) (Put.m rfl rfl rfl) rfl (rest := []) rfl (Nat.le_of_ble_eq_true rfl) ⟨Nat.zero_le _, Nat.zero_le _⟩ ?_
  refine r_if_eq C (pc := 5) 15 dX9_functionOf_5 rfl h (fun c5 h => ?_) (fun c5 h => ?_)
  · refine r_iload_n C (pc := 15) dX9_functionOf_15 rfl 1 rfl ?_
    refine sw1 h (fun b16_0 h => ?_) (fun b16_0 h => ?_)
    · refine r_tableIn C (pc := 16) 44 dX9_functionOf_16 10 (28) b16_0 (by decide) (by decide) (by decide +kernel) rfl ?_
      refine r_aload_n C (pc := 44) dX9_functionOf_44 rfl 0 rfl ?_
      refine r_aload_n C (pc := 45) dX9_functionOf_45 rfl 0 rfl ?_
      refine r_get C (pc := 46) dX9_functionOf_46 gf_X9_functionOf_19 0 rfl rfl ?_
      refine r_iconst C (pc := 49) dX9_functionOf_49 ?_
      obtain ⟨r50, e50, h⟩ := wp_b1 h
      refine b_cVi C (pc := 50) dX9_functionOf_50 (c_X9_keeps (xl g) (xG g) q (q 2) 5 F c_this_far c_this_number 0 r50 e50) rfl gX9_functionOf_X9_keeps ⟨rfl, rfl⟩ 2 hd_X9_keeps ⟨Nat.le_of_ble_eq_true rfl, Nat.le_of_ble_eq_true rfl⟩ rfl 0 rfl rfl rfl [0, 1, 2] rfl (srt_nd 0 rfl) (ws' := w_X9_functionOf (xG g) q F c_this_far c_this_number) (Put.m rfl rfl rfl) rfl (rest := []) rfl (Nat.le_of_ble_eq_true rfl) ⟨Nat.zero_le _, Nat.zero_le _⟩ ?_
      refine jn_e (fun (k61 : Int → Option Int) => ∀ (s0_61 : Int), wp (k61 s0_61) K → WW g 0 0 (w_X9_functionOf (xG g) q F c_this_far c_this_number) 61 [] [.int (jz s0_61)]) h (fun s0_61 h => ?_) (fun k61 hk61 h => ?_)
      · exact r_iret C (pc := 61) dX9_functionOf_61 (hK s0_61 (wp_s h) rfl)
      · refine r_if_eq C (pc := 53) 60 dX9_functionOf_53 rfl h (fun c53 h => ?_) (fun c53 h => ?_)
        · refine r_iconst C (pc := 60) dX9_functionOf_60 ?_
          refine r_sub [] rfl ?_
          exact hk61 0 h
        · refine r_iconst C (pc := 56) dX9_functionOf_56 ?_
          refine r_goto C (pc := 57) 61 dX9_functionOf_57 rfl ?_
          refine r_sub [] rfl ?_
          exact hk61 1 h
    · refine sw1 h (fun b16_1 h => ?_) (fun b16_1 h => ?_)
      · refine r_tableIn C (pc := 16) 62 dX9_functionOf_16 11 (46) b16_1 (by decide) (by decide) (by decide +kernel) rfl ?_
        refine r_aload_n C (pc := 62) dX9_functionOf_62 rfl 0 rfl ?_
        refine r_aload_n C (pc := 63) dX9_functionOf_63 rfl 0 rfl ?_
        refine r_get C (pc := 64) dX9_functionOf_64 gf_X9_functionOf_19 0 rfl rfl ?_
        refine r_iconst C (pc := 67) dX9_functionOf_67 ?_
        obtain ⟨r68, e68, h⟩ := wp_b1 h
        refine b_cVi C (pc := 68) dX9_functionOf_68 (c_X9_isLeast (xl g) (xG g) q (q 2) 5 F c_this_far c_this_number 0 r68 e68) rfl gX9_functionOf_X9_isLeast ⟨rfl, rfl⟩ 2 hd_X9_isLeast ⟨Nat.le_of_ble_eq_true rfl, Nat.le_of_ble_eq_true rfl⟩ rfl 0 rfl rfl rfl [0, 1, 2] rfl (srt_nd 0 rfl) (ws' := w_X9_functionOf (xG g) q F c_this_far c_this_number) (Put.m rfl rfl rfl) rfl (rest := []) rfl (Nat.le_of_ble_eq_true rfl) ⟨Nat.zero_le _, Nat.zero_le _⟩ ?_
        refine jn_e (fun (k79 : Int → Option Int) => ∀ (s0_79 : Int), wp (k79 s0_79) K → WW g 0 0 (w_X9_functionOf (xG g) q F c_this_far c_this_number) 79 [] [.int (jz s0_79)]) h (fun s0_79 h => ?_) (fun k79 hk79 h => ?_)
        · exact r_iret C (pc := 79) dX9_functionOf_79 (hK s0_79 (wp_s h) rfl)
        · refine r_if_eq C (pc := 71) 78 dX9_functionOf_71 rfl h (fun c71 h => ?_) (fun c71 h => ?_)
          · refine r_iconst C (pc := 78) dX9_functionOf_78 ?_
            refine r_sub [] rfl ?_
            exact hk79 0 h
          · refine r_iconst C (pc := 74) dX9_functionOf_74 ?_
            refine r_goto C (pc := 75) 79 dX9_functionOf_75 rfl ?_
            refine r_sub [] rfl ?_
            exact hk79 1 h
      · refine sw1 h (fun b16_2 h => ?_) (fun b16_2 h => ?_)
        · refine r_tableIn C (pc := 16) 80 dX9_functionOf_16 12 (64) b16_2 (by decide) (by decide) (by decide +kernel) rfl ?_
          refine r_aload_n C (pc := 80) dX9_functionOf_80 rfl 0 rfl ?_
          refine r_aload_n C (pc := 81) dX9_functionOf_81 rfl 0 rfl ?_
          refine r_get C (pc := 82) dX9_functionOf_82 gf_X9_functionOf_19 0 rfl rfl ?_
          refine r_iconst C (pc := 85) dX9_functionOf_85 ?_
          obtain ⟨r86, e86, h⟩ := wp_b1 h
          refine b_cVi C (pc := 86) dX9_functionOf_86 (c_X9_isLeast (xl g) (xG g) q (q 2) 5 F c_this_far c_this_number 0 r86 e86) rfl gX9_functionOf_X9_isLeast ⟨rfl, rfl⟩ 2 hd_X9_isLeast ⟨Nat.le_of_ble_eq_true rfl, Nat.le_of_ble_eq_true rfl⟩ rfl 0 rfl rfl rfl [0, 1, 2] rfl (srt_nd 0 rfl) (ws' := w_X9_functionOf (xG g) q F c_this_far c_this_number) (Put.m rfl rfl rfl) rfl (rest := []) rfl (Nat.le_of_ble_eq_true rfl) ⟨Nat.zero_le _, Nat.zero_le _⟩ ?_
          refine jn_e (fun (k106 : Int → Option Int) => ∀ (s0_106 : Int), wp (k106 s0_106) K → WW g 0 0 (w_X9_functionOf (xG g) q F c_this_far c_this_number) 106 [] [.int (jz s0_106)]) h (fun s0_106 h => ?_) (fun k106 hk106 h => ?_)
          · exact r_iret C (pc := 106) dX9_functionOf_106 (hK s0_106 (wp_s h) rfl)
          · refine r_if_eq C (pc := 89) 104 dX9_functionOf_89 rfl h (fun c89 h => ?_) (fun c89 h => ?_)
            · refine r_bipush C (pc := 104) dX9_functionOf_104 rfl ?_
              refine r_sub [] rfl ?_
              exact hk106 (-5) h
            · refine r_aload_n C (pc := 92) dX9_functionOf_92 rfl 0 rfl ?_
              refine r_aload_n C (pc := 93) dX9_functionOf_93 rfl 0 rfl ?_
              refine r_get C (pc := 94) dX9_functionOf_94 gf_X9_functionOf_19 0 rfl rfl ?_
              refine r_iconst C (pc := 97) dX9_functionOf_97 ?_
              obtain ⟨r98, e98, h⟩ := wp_b1 h
              refine b_cVi C (pc := 98) dX9_functionOf_98 (c_X9_depth (xl g) (xG g) q (q 2) 5 F c_this_far c_this_number 0 r98 e98) rfl gX9_functionOf_X9_depth ⟨rfl, rfl⟩ 2 hd_X9_depth ⟨Nat.le_of_ble_eq_true rfl, Nat.le_of_ble_eq_true rfl⟩ rfl 0 rfl rfl rfl [0, 1, 2] rfl (srt_nd 0 rfl) (ws' := w_X9_functionOf (xG g) q F c_this_far c_this_number) (Put.m rfl rfl rfl) rfl (rest := []) rfl (Nat.le_of_ble_eq_true rfl) ⟨Nat.zero_le _, Nat.zero_le _⟩ ?_
              refine r_goto C (pc := 101) 106 dX9_functionOf_101 rfl ?_
              refine r_sub [] rfl ?_
              exact hk106 r98 h
        · refine r_tableOut C (pc := 16) 107 dX9_functionOf_16 (by have q := sw_out (a := p1) (lo := 10) 3 (by decide) (by decide) (by intro i hi; match i, hi with | 0, _ => exact b16_0 | 1, _ => exact b16_1 | 2, _ => exact b16_2); omega) rfl ?_
          refine r_iconst C (pc := 107) dX9_functionOf_107 ?_
          exact r_iret C (pc := 108) dX9_functionOf_108 (hK (-1) (wp_s h) rfl)
  · refine r_aload_n C (pc := 8) dX9_functionOf_8 rfl 0 rfl ?_
    refine r_get C (pc := 9) dX9_functionOf_9 gf_X9_functionOf_19 0 rfl rfl ?_
    refine r_iload_n C (pc := 12) dX9_functionOf_12 rfl 1 rfl ?_
    refine r_iald C (pc := 13) dX9_functionOf_13 h 2 rfl (fun h => ?_)
    exact r_iret C (pc := 14) dX9_functionOf_14 (hK (c_this_number (ix p1)) (wp_s h) rfl)
theorem c_X9_functionOf (l : Launch) (G : gG) (q : Nat → Nat) (F : Nat → Int) (c_this_far : Nat → Int) (c_this_number : Nat → Int) (p1 : Int) (r : Int) (hf : f_X9_functionOf p1 (F 0) c_this_far c_this_number = some r) : CTi l yX9_functionOf wsX9_functionOf rm_X9_functionOf G (w_X9_functionOf G q F c_this_far c_this_number) [.ref (q 35), .int (jz p1)] (jz r) (w_X9_functionOf G q F c_this_far c_this_number) := CTi_of (by decide) rfl rfl (Nat.le_of_ble_eq_true rfl) (fun g C hG hl hF => by
    subst hG
    subst hl
    exact k_X9_functionOf C q F c_this_far c_this_number p1 (fun x => x = r) (fun r' e => by cases e; exact hF) ⟨_, hf, rfl⟩)

-- TightHullsModel.mapOf(I)I
def f_X9_mapOf (p1 : Int) (m_points : Int) (c_this_far : Nat → Int) (c_this_becomes : Nat → Int) : Option Int := bd1 (f_X9_isPoint p1 m_points) (fun r2 => if eqI r2 0 = true then (bd1 (f_X9_in p1 10 11) (fun r20 => if eqI r20 0 = true then (some (-1)) else (lq1 (fun (n30 : Int → Option Int) (v2_30 : Int) => if ltI v2_30 m_points = true then (lq1 (fun (n40 : Int → Option Int) (v3_40 : Int) => if ltI v3_40 v2_30 = true then (grd (iin v2_30 5) (grd (iin v3_40 5) (bd1 (f_X9_d (c_this_becomes (ix v2_30)) (c_this_becomes (ix v3_40)) c_this_far) (fun r58 => jn (some 0) (fun (k94 : Option Int) => jn (n40 (v3_40 + 1)) (fun (k96 : Option Int) => if eqI p1 10 = true then (bd1 (f_X9_d v2_30 v3_40 c_this_far) (fun r74 => if eqI r58 r74 = true then k96 else k94)) else (bd1 (f_X9_d v2_30 v3_40 c_this_far) (fun r88 => if ltI r88 r58 = true then k94 else k96)))))))) else (n30 (v2_30 + 1))) 300 0) else (some 1)) 300 0))) else (grd (iin p1 5) (some (c_this_becomes (ix p1)))))
abbrev rm_X9_mapOf : Room := { frames := 2, cells := 0, slots := 0, locals := 43 }
abbrev w_X9_mapOf (G : gG) (q : Nat → Nat) (F : Nat → Int) (c_this_far : Nat → Int) (c_this_becomes : Nat → Int) : va_W := [((q 35), oX9 F q), ((q 1), aI G 25 c_this_far), ((q 3), aI G 5 c_this_becomes)]
theorem hd_X9_mapOf : yX9_mapOf.cls = RX9 ∧ yX9_mapOf.cls ≠ "java/lang/invoke/MethodHandle" ∧ yX9_mapOf.cls ≠ "java/lang/invoke/VarHandle" ∧ (parseMethodDescriptor yX9_mapOf.desc).map (fun d => d.parameters.length) = some 1 := by decide +kernel
theorem in_X9_mapOf_X9 : ∀ w ∈ u_ws RX9 TX9 35, w ∈ wsX9_mapOf := fun w h => List.mem_cons_of_mem _ (List.mem_append_right _ (h))
theorem gf_X9_mapOf_9 : GF wsX9_mapOf RX9 9 8 0 := ⟨RX9, TX9, 35, rfl, in_X9_mapOf_X9, by decide, List.mem_of_getElem? (i := 2) rfl⟩
theorem gf_X9_mapOf_22 : GF wsX9_mapOf RX9 22 8 3 := ⟨RX9, TX9, 35, rfl, in_X9_mapOf_X9, by decide, List.mem_of_getElem? (i := 1) rfl⟩
set_option maxRecDepth 100000 in
set_option maxHeartbeats 4000000 in
theorem k_X9_mapOf {g : XC} (C : XOk g cX9_mapOf RX9 wsX9_mapOf rm_X9_mapOf 5) (q : Nat → Nat) (F : Nat → Int) (c_this_far : Nat → Int) (c_this_becomes : Nat → Int) (p1 : Int) (K : Int → Prop) (hK : ∀ (r : Int), K r → (narrow .int (.int (jz r)) = .int (jz r) → FinI g 0 0 (w_X9_mapOf (xG g) q F c_this_far c_this_becomes) (jz r))) (h : wp (f_X9_mapOf p1 (F 0) c_this_far c_this_becomes) K) : WW g 0 0 (w_X9_mapOf (xG g) q F c_this_far c_this_becomes) 0 [(0, .ref (q 35)), (1, .int (jz p1))] [] := by
  unfold f_X9_mapOf at h
  refine r_aload_n C (pc := 0) dX9_mapOf_0 rfl 0 rfl ?_
  refine r_iload_n C (pc := 1) dX9_mapOf_1 rfl 1 rfl ?_
  obtain ⟨r2, e2, h⟩ := wp_b1 h
  refine b_cVi C (pc := 2) dX9_mapOf_2 (c_X9_isPoint (xl g) (xG g) q F p1 r2 e2) rfl gX9_mapOf_X9_isPoint ⟨rfl, rfl⟩ 1 hd_X9_isPoint ⟨Nat.le_of_ble_eq_true rfl, Nat.le_of_ble_eq_true rfl⟩ rfl 0 rfl rfl rfl [0] rfl (srt_nd 0 rfl) (ws' := w_X9_mapOf (xG g) q F c_this_far c_this_becomes) (Put.m rfl rfl rfl) rfl (rest := []) rfl (Nat.le_of_ble_eq_true rfl) ⟨Nat.zero_le _, Nat.zero_le _⟩ ?_
  refine r_if_eq C (pc := 5) 15 dX9_mapOf_5 rfl h (fun c5 h => ?_) (fun c5 h => ?_)
  · refine r_iload_n C (pc := 15) dX9_mapOf_15 rfl 1 rfl ?_
    refine r_bipush C (pc := 16) dX9_mapOf_16 rfl ?_
    refine r_bipush C (pc := 18) dX9_mapOf_18 rfl ?_
    obtain ⟨r20, e20, h⟩ := wp_b1 h
    refine b_cSi C (pc := 20) dX9_mapOf_20 (c_X9_in (xl g) (xG g) p1 10 11 r20 e20) rfl gX9_mapOf_X9_in ⟨rfl, rfl⟩ 3 hd_X9_in ⟨Nat.le_of_ble_eq_true rfl, Nat.le_of_ble_eq_true rfl⟩ rfl [] rfl (srt_nd 0 rfl) (ws' := w_X9_mapOf (xG g) q F c_this_far c_this_becomes) (Put.m rfl rfl rfl) rfl (rest := []) rfl (Nat.le_of_ble_eq_true rfl) ⟨Nat.zero_le _, Nat.zero_le _⟩ ?_
    refine r_if_ne C (pc := 23) 28 dX9_mapOf_23 rfl h (fun c23 h => ?_) (fun c23 h => ?_)
    · refine r_iconst C (pc := 28) dX9_mapOf_28 ?_
      refine r_istore_n C (pc := 29) dX9_mapOf_29 rfl (by decide) (L' := [(0, .ref (q 35)), (1, .int (jz p1)), (2, .int (jz 0))]) rfl ?_
      refine lq1_e (fun (v2_30 : Int) => WW g 0 0 (w_X9_mapOf (xG g) q F c_this_far c_this_becomes) 30 [(0, .ref (q 35)), (1, .int (jz p1)), (2, .int (jz v2_30))] []) h (fun n30 hn30 v2_30 h => ?_)
      refine r_iload_n C (pc := 30) dX9_mapOf_30 rfl 2 rfl ?_
      refine r_aload_n C (pc := 31) dX9_mapOf_31 rfl 0 rfl ?_
      refine r_get C (pc := 32) dX9_mapOf_32 gf_X9_mapOf_9 0 rfl rfl ?_
      refine r_icmp_ge C (pc := 35) 108 dX9_mapOf_35 rfl h (fun c35 h => ?_) (fun c35 h => ?_)
      · refine r_iconst C (pc := 108) dX9_mapOf_108 ?_
        exact r_iret C (pc := 109) dX9_mapOf_109 (hK 1 (wp_s h) rfl)
      · refine r_iconst C (pc := 38) dX9_mapOf_38 ?_
        refine r_istore_n C (pc := 39) dX9_mapOf_39 rfl (by decide) (L' := [(0, .ref (q 35)), (1, .int (jz p1)), (2, .int (jz v2_30)), (3, .int (jz 0))]) rfl ?_
        refine lq1_e (fun (v3_40 : Int) => WW g 0 0 (w_X9_mapOf (xG g) q F c_this_far c_this_becomes) 40 [(0, .ref (q 35)), (1, .int (jz p1)), (2, .int (jz v2_30)), (3, .int (jz v3_40))] []) h (fun n40 hn40 v3_40 h => ?_)
        refine r_iload_n C (pc := 40) dX9_mapOf_40 rfl 3 rfl ?_
        refine r_iload_n C (pc := 41) dX9_mapOf_41 rfl 2 rfl ?_
        refine r_icmp_ge C (pc := 42) 102 dX9_mapOf_42 rfl h (fun c42 h => ?_) (fun c42 h => ?_)
        · refine r_iinc C (pc := 102) dX9_mapOf_102 2 rfl (by decide) (L' := [(0, .ref (q 35)), (1, .int (jz p1)), (2, .int (jz (v2_30 + 1))), (3, .int (jz v3_40))]) rfl ?_
          refine r_goto C (pc := 105) 30 dX9_mapOf_105 rfl ?_
          refine r_sub [0, 1, 2] rfl ?_
          exact hn30 (v2_30 + 1) h
        · refine r_aload_n C (pc := 45) dX9_mapOf_45 rfl 0 rfl ?_
          refine r_aload_n C (pc := 46) dX9_mapOf_46 rfl 0 rfl ?_
          refine r_get C (pc := 47) dX9_mapOf_47 gf_X9_mapOf_22 0 rfl rfl ?_
          refine r_iload_n C (pc := 50) dX9_mapOf_50 rfl 2 rfl ?_
          refine r_iald C (pc := 51) dX9_mapOf_51 h 2 rfl (fun h => ?_)
          refine r_aload_n C (pc := 52) dX9_mapOf_52 rfl 0 rfl ?_
          refine r_get C (pc := 53) dX9_mapOf_53 gf_X9_mapOf_22 0 rfl rfl ?_
          refine r_iload_n C (pc := 56) dX9_mapOf_56 rfl 3 rfl ?_
          refine r_iald C (pc := 57) dX9_mapOf_57 h 2 rfl (fun h => ?_)
          obtain ⟨r58, e58, h⟩ := wp_b1 h
          refine b_cVi C (pc := 58) dX9_mapOf_58 (c_X9_d (xl g) (xG g) q F c_this_far (c_this_becomes (ix v2_30)) (c_this_becomes (ix v3_40)) r58 e58) rfl gX9_mapOf_X9_d ⟨rfl, rfl⟩ 2 hd_X9_d ⟨Nat.le_of_ble_eq_true rfl, Nat.le_of_ble_eq_true rfl⟩ rfl 0 rfl rfl rfl [0, 1] rfl (srt_nd 0 rfl) (ws' := w_X9_mapOf (xG g) q F c_this_far c_this_becomes) (Put.m rfl rfl rfl) rfl (rest := []) rfl (Nat.le_of_ble_eq_true rfl) ⟨Nat.zero_le _, Nat.zero_le _⟩ ?_
          refine r_istore C (pc := 61) dX9_mapOf_61 (by decide) (L' := [(0, .ref (q 35)), (1, .int (jz p1)), (2, .int (jz v2_30)), (3, .int (jz v3_40)), (4, .int (jz r58))]) rfl ?_
          refine r_iload_n C (pc := 63) dX9_mapOf_63 rfl 1 rfl ?_
          refine r_bipush C (pc := 64) dX9_mapOf_64 rfl ?_
          refine jn_e (fun (k94 : Option Int) => wp (k94) K → WW g 0 0 (w_X9_mapOf (xG g) q F c_this_far c_this_becomes) 94 [] []) h (fun h => ?_) (fun k94 hk94 h => ?_)
          · refine r_iconst C (pc := 94) dX9_mapOf_94 ?_
            exact r_iret C (pc := 95) dX9_mapOf_95 (hK 0 (wp_s h) rfl)
          · refine jn_e (fun (k96 : Option Int) => wp (k96) K → WW g 0 0 (w_X9_mapOf (xG g) q F c_this_far c_this_becomes) 96 [(0, .ref (q 35)), (1, .int (jz p1)), (2, .int (jz v2_30)), (3, .int (jz v3_40))] []) h (fun h => ?_) (fun k96 hk96 h => ?_)
            · refine r_iinc C (pc := 96) dX9_mapOf_96 3 rfl (by decide) (L' := [(0, .ref (q 35)), (1, .int (jz p1)), (2, .int (jz v2_30)), (3, .int (jz (v3_40 + 1)))]) rfl ?_
              refine r_goto C (pc := 99) 40 dX9_mapOf_99 rfl ?_
              exact hn40 (v3_40 + 1) h
            · refine r_icmp_ne C (pc := 66) 83 dX9_mapOf_66 rfl h (fun c66 h => ?_) (fun c66 h => ?_)
              · refine r_iload C (pc := 83) dX9_mapOf_83 4 rfl ?_
                refine r_aload_n C (pc := 85) dX9_mapOf_85 rfl 0 rfl ?_
                refine r_iload_n C (pc := 86) dX9_mapOf_86 rfl 2 rfl ?_
                refine r_iload_n C (pc := 87) dX9_mapOf_87 rfl 3 rfl ?_
                obtain ⟨r88, e88, h⟩ := wp_b1 h
                refine b_cVi C (pc := 88) dX9_mapOf_88 (c_X9_d (xl g) (xG g) q F c_this_far v2_30 v3_40 r88 e88) rfl gX9_mapOf_X9_d ⟨rfl, rfl⟩ 2 hd_X9_d ⟨Nat.le_of_ble_eq_true rfl, Nat.le_of_ble_eq_true rfl⟩ rfl 0 rfl rfl rfl [0, 1] rfl (srt_nd 0 rfl) (ws' := w_X9_mapOf (xG g) q F c_this_far c_this_becomes) (Put.m rfl rfl rfl) rfl (rest := [.int (jz r58)]) rfl (Nat.le_of_ble_eq_true rfl) ⟨Nat.zero_le _, Nat.zero_le _⟩ ?_
                refine r_icmp_le C (pc := 91) 96 dX9_mapOf_91 rfl h (fun c91 h => ?_) (fun c91 h => ?_)
                · refine r_sub [0, 1, 2, 3] rfl ?_
                  exact hk96 h
                · refine r_sub [] rfl ?_
                  exact hk94 h
              · refine r_iload C (pc := 69) dX9_mapOf_69 4 rfl ?_
                refine r_aload_n C (pc := 71) dX9_mapOf_71 rfl 0 rfl ?_
                refine r_iload_n C (pc := 72) dX9_mapOf_72 rfl 2 rfl ?_
                refine r_iload_n C (pc := 73) dX9_mapOf_73 rfl 3 rfl ?_
                obtain ⟨r74, e74, h⟩ := wp_b1 h
                refine b_cVi C (pc := 74) dX9_mapOf_74 (c_X9_d (xl g) (xG g) q F c_this_far v2_30 v3_40 r74 e74) rfl gX9_mapOf_X9_d ⟨rfl, rfl⟩ 2 hd_X9_d ⟨Nat.le_of_ble_eq_true rfl, Nat.le_of_ble_eq_true rfl⟩ rfl 0 rfl rfl rfl [0, 1] rfl (srt_nd 0 rfl) (ws' := w_X9_mapOf (xG g) q F c_this_far c_this_becomes) (Put.m rfl rfl rfl) rfl (rest := [.int (jz r58)]) rfl (Nat.le_of_ble_eq_true rfl) ⟨Nat.zero_le _, Nat.zero_le _⟩ ?_
                refine r_icmp_eq C (pc := 77) 96 dX9_mapOf_77 rfl h (fun c77 h => ?_) (fun c77 h => ?_)
                · refine r_sub [0, 1, 2, 3] rfl ?_
                  exact hk96 h
                · refine r_goto C (pc := 80) 94 dX9_mapOf_80 rfl ?_
                  refine r_sub [] rfl ?_
                  exact hk94 h
    · refine r_iconst C (pc := 26) dX9_mapOf_26 ?_
      exact r_iret C (pc := 27) dX9_mapOf_27 (hK (-1) (wp_s h) rfl)
  · refine r_aload_n C (pc := 8) dX9_mapOf_8 rfl 0 rfl ?_
    refine r_get C (pc := 9) dX9_mapOf_9 gf_X9_mapOf_22 0 rfl rfl ?_
    refine r_iload_n C (pc := 12) dX9_mapOf_12 rfl 1 rfl ?_
    refine r_iald C (pc := 13) dX9_mapOf_13 h 2 rfl (fun h => ?_)
    exact r_iret C (pc := 14) dX9_mapOf_14 (hK (c_this_becomes (ix p1)) (wp_s h) rfl)
theorem c_X9_mapOf (l : Launch) (G : gG) (q : Nat → Nat) (F : Nat → Int) (c_this_far : Nat → Int) (c_this_becomes : Nat → Int) (p1 : Int) (r : Int) (hf : f_X9_mapOf p1 (F 0) c_this_far c_this_becomes = some r) : CTi l yX9_mapOf wsX9_mapOf rm_X9_mapOf G (w_X9_mapOf G q F c_this_far c_this_becomes) [.ref (q 35), .int (jz p1)] (jz r) (w_X9_mapOf G q F c_this_far c_this_becomes) := CTi_of (by decide) rfl rfl (Nat.le_of_ble_eq_true rfl) (fun g C hG hl hF => by
    subst hG
    subst hl
    exact k_X9_mapOf C q F c_this_far c_this_becomes p1 (fun x => x = r) (fun r' e => by cases e; exact hF) ⟨_, hf, rfl⟩)

-- TightHullsModel.middle(III)I
def f_X9_middle (p1 : Int) (p2 : Int) (p3 : Int) (m_points : Int) (c_this_far : Nat → Int) : Option Int := bd1 (f_X9_isPoint p1 m_points) (fun r2 => jn (fun (s0_48 : Int) => some s0_48) (fun (k48 : Int → Option Int) => jn (k48 (-1)) (fun (k47 : Option Int) => if eqI r2 0 = true then k47 else (bd1 (f_X9_isPoint p2 m_points) (fun r10 => if eqI r10 0 = true then k47 else (bd1 (f_X9_isPoint p3 m_points) (fun r18 => if eqI r18 0 = true then k47 else (bd1 (f_X9_d p1 p2 c_this_far) (fun r27 => bd1 (f_X9_d p1 p3 c_this_far) (fun r33 => bd1 (f_X9_d p2 p3 c_this_far) (fun r40 => k48 ((r27 + r33) - r40))))))))))))
abbrev rm_X9_middle : Room := { frames := 2, cells := 0, slots := 0, locals := 43 }
abbrev w_X9_middle (G : gG) (q : Nat → Nat) (F : Nat → Int) (c_this_far : Nat → Int) : va_W := [((q 35), oX9 F q), ((q 1), aI G 25 c_this_far)]
theorem hd_X9_middle : yX9_middle.cls = RX9 ∧ yX9_middle.cls ≠ "java/lang/invoke/MethodHandle" ∧ yX9_middle.cls ≠ "java/lang/invoke/VarHandle" ∧ (parseMethodDescriptor yX9_middle.desc).map (fun d => d.parameters.length) = some 3 := by decide +kernel
set_option maxRecDepth 100000 in
set_option maxHeartbeats 4000000 in
theorem k_X9_middle {g : XC} (C : XOk g cX9_middle RX9 wsX9_middle rm_X9_middle 4) (q : Nat → Nat) (F : Nat → Int) (c_this_far : Nat → Int) (p1 : Int) (p2 : Int) (p3 : Int) (K : Int → Prop) (hK : ∀ (r : Int), K r → (narrow .int (.int (jz r)) = .int (jz r) → FinI g 0 0 (w_X9_middle (xG g) q F c_this_far) (jz r))) (h : wp (f_X9_middle p1 p2 p3 (F 0) c_this_far) K) : WW g 0 0 (w_X9_middle (xG g) q F c_this_far) 0 [(0, .ref (q 35)), (1, .int (jz p1)), (2, .int (jz p2)), (3, .int (jz p3))] [] := by
  unfold f_X9_middle at h
  refine r_aload_n C (pc := 0) dX9_middle_0 rfl 0 rfl ?_
  refine r_iload_n C (pc := 1) dX9_middle_1 rfl 1 rfl ?_
  obtain ⟨r2, e2, h⟩ := wp_b1 h
  refine b_cVi C (pc := 2) dX9_middle_2 (c_X9_isPoint (xl g) (xG g) q F p1 r2 e2) rfl gX9_middle_X9_isPoint ⟨rfl, rfl⟩ 1 hd_X9_isPoint ⟨Nat.le_of_ble_eq_true rfl, Nat.le_of_ble_eq_true rfl⟩ rfl 0 rfl rfl rfl [0] rfl (srt_nd 0 rfl) (ws' := w_X9_middle (xG g) q F c_this_far) (Put.m rfl rfl rfl) rfl (rest := []) rfl (Nat.le_of_ble_eq_true rfl) ⟨Nat.zero_le _, Nat.zero_le _⟩ ?_
  refine jn_e (fun (k48 : Int → Option Int) => ∀ (s0_48 : Int), wp (k48 s0_48) K → WW g 0 0 (w_X9_middle (xG g) q F c_this_far) 48 [] [.int (jz s0_48)]) h (fun s0_48 h => ?_) (fun k48 hk48 h => ?_)
  · exact r_iret C (pc := 48) dX9_middle_48 (hK s0_48 (wp_s h) rfl)
  · refine jn_e (fun (k47 : Option Int) => wp (k47) K → WW g 0 0 (w_X9_middle (xG g) q F c_this_far) 47 [] []) h (fun h => ?_) (fun k47 hk47 h => ?_)
    · refine r_iconst C (pc := 47) dX9_middle_47 ?_
      exact hk48 (-1) h
    · refine r_if_eq C (pc := 5) 47 dX9_middle_5 rfl h (fun c5 h => ?_) (fun c5 h => ?_)
      · refine r_sub [] rfl ?_
        exact hk47 h
      · refine r_aload_n C (pc := 8) dX9_middle_8 rfl 0 rfl ?_
        refine r_iload_n C (pc := 9) dX9_middle_9 rfl 2 rfl ?_
        obtain ⟨r10, e10, h⟩ := wp_b1 h
        refine b_cVi C (pc := 10) dX9_middle_10 (c_X9_isPoint (xl g) (xG g) q F p2 r10 e10) rfl gX9_middle_X9_isPoint ⟨rfl, rfl⟩ 1 hd_X9_isPoint ⟨Nat.le_of_ble_eq_true rfl, Nat.le_of_ble_eq_true rfl⟩ rfl 0 rfl rfl rfl [0] rfl (srt_nd 0 rfl) (ws' := w_X9_middle (xG g) q F c_this_far) (Put.m rfl rfl rfl) rfl (rest := []) rfl (Nat.le_of_ble_eq_true rfl) ⟨Nat.zero_le _, Nat.zero_le _⟩ ?_
        refine r_if_eq C (pc := 13) 47 dX9_middle_13 rfl h (fun c13 h => ?_) (fun c13 h => ?_)
        · refine r_sub [] rfl ?_
          exact hk47 h
        · refine r_aload_n C (pc := 16) dX9_middle_16 rfl 0 rfl ?_
          refine r_iload_n C (pc := 17) dX9_middle_17 rfl 3 rfl ?_
          obtain ⟨r18, e18, h⟩ := wp_b1 h
          refine b_cVi C (pc := 18) dX9_middle_18 (c_X9_isPoint (xl g) (xG g) q F p3 r18 e18) rfl gX9_middle_X9_isPoint ⟨rfl, rfl⟩ 1 hd_X9_isPoint ⟨Nat.le_of_ble_eq_true rfl, Nat.le_of_ble_eq_true rfl⟩ rfl 0 rfl rfl rfl [0] rfl (srt_nd 0 rfl) (ws' := w_X9_middle (xG g) q F c_this_far) (Put.m rfl rfl rfl) rfl (rest := []) rfl (Nat.le_of_ble_eq_true rfl) ⟨Nat.zero_le _, Nat.zero_le _⟩ ?_
          refine r_if_eq C (pc := 21) 47 dX9_middle_21 rfl h (fun c21 h => ?_) (fun c21 h => ?_)
          · refine r_sub [] rfl ?_
            exact hk47 h
          · refine r_aload_n C (pc := 24) dX9_middle_24 rfl 0 rfl ?_
            refine r_iload_n C (pc := 25) dX9_middle_25 rfl 1 rfl ?_
            refine r_iload_n C (pc := 26) dX9_middle_26 rfl 2 rfl ?_
            obtain ⟨r27, e27, h⟩ := wp_b1 h
            refine b_cVi C (pc := 27) dX9_middle_27 (c_X9_d (xl g) (xG g) q F c_this_far p1 p2 r27 e27) rfl gX9_middle_X9_d ⟨rfl, rfl⟩ 2 hd_X9_d ⟨Nat.le_of_ble_eq_true rfl, Nat.le_of_ble_eq_true rfl⟩ rfl 0 rfl rfl rfl [0, 1] rfl (srt_nd 0 rfl) (ws' := w_X9_middle (xG g) q F c_this_far) (Put.m rfl rfl rfl) rfl (rest := []) rfl (Nat.le_of_ble_eq_true rfl) ⟨Nat.zero_le _, Nat.zero_le _⟩ ?_
            refine r_aload_n C (pc := 30) dX9_middle_30 rfl 0 rfl ?_
            refine r_iload_n C (pc := 31) dX9_middle_31 rfl 1 rfl ?_
            refine r_iload_n C (pc := 32) dX9_middle_32 rfl 3 rfl ?_
            obtain ⟨r33, e33, h⟩ := wp_b1 h
            refine b_cVi C (pc := 33) dX9_middle_33 (c_X9_d (xl g) (xG g) q F c_this_far p1 p3 r33 e33) rfl gX9_middle_X9_d ⟨rfl, rfl⟩ 2 hd_X9_d ⟨Nat.le_of_ble_eq_true rfl, Nat.le_of_ble_eq_true rfl⟩ rfl 0 rfl rfl rfl [0, 1] rfl (srt_nd 0 rfl) (ws' := w_X9_middle (xG g) q F c_this_far) (Put.m rfl rfl rfl) rfl (rest := [.int (jz r27)]) rfl (Nat.le_of_ble_eq_true rfl) ⟨Nat.zero_le _, Nat.zero_le _⟩ ?_
            refine r_iadd C (pc := 36) dX9_middle_36 ?_
            refine r_aload_n C (pc := 37) dX9_middle_37 rfl 0 rfl ?_
            refine r_iload_n C (pc := 38) dX9_middle_38 rfl 2 rfl ?_
            refine r_iload_n C (pc := 39) dX9_middle_39 rfl 3 rfl ?_
            obtain ⟨r40, e40, h⟩ := wp_b1 h
            refine b_cVi C (pc := 40) dX9_middle_40 (c_X9_d (xl g) (xG g) q F c_this_far p2 p3 r40 e40) rfl gX9_middle_X9_d ⟨rfl, rfl⟩ 2 hd_X9_d ⟨Nat.le_of_ble_eq_true rfl, Nat.le_of_ble_eq_true rfl⟩ rfl 0 rfl rfl rfl [0, 1] rfl (srt_nd 0 rfl) (ws' := w_X9_middle (xG g) q F c_this_far) (Put.m rfl rfl rfl) rfl (rest := [.int (jz (r27 + r33))]) rfl (Nat.le_of_ble_eq_true rfl) ⟨Nat.zero_le _, Nat.zero_le _⟩ ?_
            refine r_isub C (pc := 43) dX9_middle_43 ?_
            refine r_goto C (pc := 44) 48 dX9_middle_44 rfl ?_
            refine r_sub [] rfl ?_
            exact hk48 ((r27 + r33) - r40) h
theorem c_X9_middle (l : Launch) (G : gG) (q : Nat → Nat) (F : Nat → Int) (c_this_far : Nat → Int) (p1 : Int) (p2 : Int) (p3 : Int) (r : Int) (hf : f_X9_middle p1 p2 p3 (F 0) c_this_far = some r) : CTi l yX9_middle wsX9_middle rm_X9_middle G (w_X9_middle G q F c_this_far) [.ref (q 35), .int (jz p1), .int (jz p2), .int (jz p3)] (jz r) (w_X9_middle G q F c_this_far) := CTi_of (by decide) rfl rfl (Nat.le_of_ble_eq_true rfl) (fun g C hG hl hF => by
    subst hG
    subst hl
    exact k_X9_middle C q F c_this_far p1 p2 p3 (fun x => x = r) (fun r' e => by cases e; exact hF) ⟨_, hf, rfl⟩)

-- TightHullsModel.isTable()Z
def f_X9_isTable (m_points : Int) (m_corners : Int) (c_this_far : Nat → Int) (c_this_corner : Nat → Int) (c_this_named : Nat → Int) (c_this_tried : Nat → Int) : Option (Int × Int × (Nat → Int) × (Nat → Int) × (Nat → Int)) := bd1 (f_X9_barred m_points c_this_far) (fun r1 => jn (fun (s0_12 : Int) => jn (fun (this_corners_21 : Int) (this_corner_21 : Nat → Int) (this_named_21 : Nat → Int) (this_tried_21 : Nat → Int) => grd (isB s0_12) (some (s0_12, this_corners_21, this_corner_21, this_named_21, this_tried_21))) (fun (k21 : Int → (Nat → Int) → (Nat → Int) → (Nat → Int) → Option (Int × Int × (Nat → Int) × (Nat → Int) × (Nat → Int))) => if eqI s0_12 0 = true then (k21 m_corners c_this_corner c_this_named c_this_tried) else (bd4 (f_X9_layCorners m_points m_corners c_this_far c_this_corner c_this_named c_this_tried) (fun this_corners_18 this_corner_18 this_named_18 this_tried_18 => k21 this_corners_18 this_corner_18 this_named_18 this_tried_18)))) (fun (k12 : Int → Option (Int × Int × (Nat → Int) × (Nat → Int) × (Nat → Int))) => if ltI r1 0 = true then (k12 1) else (k12 0)))
abbrev rm_X9_isTable : Room := { frames := 4, cells := 0, slots := 0, locals := 94 }
abbrev w_X9_isTable (G : gG) (q : Nat → Nat) (F : Nat → Int) (c_this_far : Nat → Int) (c_this_corner : Nat → Int) (c_this_named : Nat → Int) (c_this_tried : Nat → Int) : va_W := [((q 35), oX9 F q), ((q 1), aI G 25 c_this_far), ((q 24), aI G 2000 c_this_corner), ((q 25), aI G 5 c_this_named), ((q 26), aI G 6 c_this_tried)]
theorem hd_X9_isTable : yX9_isTable.cls = RX9 ∧ yX9_isTable.cls ≠ "java/lang/invoke/MethodHandle" ∧ yX9_isTable.cls ≠ "java/lang/invoke/VarHandle" ∧ (parseMethodDescriptor yX9_isTable.desc).map (fun d => d.parameters.length) = some 0 := by decide +kernel
set_option maxRecDepth 100000 in
set_option maxHeartbeats 4000000 in
theorem k_X9_isTable {g : XC} (C : XOk g cX9_isTable RX9 wsX9_isTable rm_X9_isTable 2) (q : Nat → Nat) (F : Nat → Int) (c_this_far : Nat → Int) (c_this_corner : Nat → Int) (c_this_named : Nat → Int) (c_this_tried : Nat → Int)  (K : (Int × Int × (Nat → Int) × (Nat → Int) × (Nat → Int)) → Prop) (hK : ∀ (r : Int) (o0 : Int) (o1 : Nat → Int) (o2 : Nat → Int) (o3 : Nat → Int), K (r, o0, o1, o2, o3) → (narrow .boolean (.int (jz r)) = .int (jz r) → FinI g 0 0 (w_X9_isTable (xG g) q (up F 23 o0) c_this_far o1 o2 o3) (jz r))) (h : wp (f_X9_isTable (F 0) (F 23) c_this_far c_this_corner c_this_named c_this_tried) K) : WW g 0 0 (w_X9_isTable (xG g) q F c_this_far c_this_corner c_this_named c_this_tried) 0 [(0, .ref (q 35))] [] := by
  unfold f_X9_isTable at h
  refine r_aload_n C (pc := 0) dX9_isTable_0 rfl 0 rfl ?_
  obtain ⟨r1, e1, h⟩ := wp_b1 h
  refine b_cVi C (pc := 1) dX9_isTable_1 (c_X9_barred (xl g) (xG g) q F c_this_far r1 e1) rfl gX9_isTable_X9_barred ⟨rfl, rfl⟩ 0 hd_X9_barred ⟨Nat.le_of_ble_eq_true rfl, Nat.le_of_ble_eq_true rfl⟩ rfl 0 rfl rfl rfl [0, 1] rfl (srt_nd 0 rfl) (ws' := w_X9_isTable (xG g) q F c_this_far c_this_corner c_this_named c_this_tried) (Put.m rfl rfl rfl) rfl (rest := []) rfl (Nat.le_of_ble_eq_true rfl) ⟨Nat.zero_le _, Nat.zero_le _⟩ ?_
  refine jn_e (fun (k12 : Int → Option (Int × Int × (Nat → Int) × (Nat → Int) × (Nat → Int))) => ∀ (s0_12 : Int), wp (k12 s0_12) K → WW g 0 0 (w_X9_isTable (xG g) q F c_this_far c_this_corner c_this_named c_this_tried) 12 [(0, .ref (q 35))] [.int (jz s0_12)]) h (fun s0_12 h => ?_) (fun k12 hk12 h => ?_)
  · refine r_istore_n C (pc := 12) dX9_isTable_12 rfl (by decide) (L' := [(0, .ref (q 35)), (1, .int (jz s0_12))]) rfl ?_
    refine r_iload_n C (pc := 13) dX9_isTable_13 rfl 1 rfl ?_
    refine jn_e (fun (k21 : Int → (Nat → Int) → (Nat → Int) → (Nat → Int) → Option (Int × Int × (Nat → Int) × (Nat → Int) × (Nat → Int))) => ∀ (this_corners_21 : Int) (this_corner_21 : Nat → Int) (this_named_21 : Nat → Int) (this_tried_21 : Nat → Int), wp (k21 this_corners_21 this_corner_21 this_named_21 this_tried_21) K → WW g 0 0 (w_X9_isTable (xG g) q (up F 23 this_corners_21) c_this_far this_corner_21 this_named_21 this_tried_21) 21 [(1, .int (jz s0_12))] []) h (fun this_corners_21 this_corner_21 this_named_21 this_tried_21 h => ?_) (fun k21 hk21 h => ?_)
    · refine r_iload_n C (pc := 21) dX9_isTable_21 rfl 0 rfl ?_
      exact r_iret C (pc := 22) dX9_isTable_22 (hK s0_12 this_corners_21 this_corner_21 this_named_21 this_tried_21 (wp_s (wp_g h).2) (nB (wp_g h).1).1)
    · refine r_if_eq C (pc := 14) 21 dX9_isTable_14 rfl h (fun c14 h => ?_) (fun c14 h => ?_)
      · refine r_sub [1] rfl ?_
        exact hk21 (F 23) c_this_corner c_this_named c_this_tried h
      · refine r_aload_n C (pc := 17) dX9_isTable_17 rfl 0 rfl ?_
        obtain ⟨this_corners_18, this_corner_18, this_named_18, this_tried_18, e18, h⟩ := wp_b4 h
        refine b_cVv C (pc := 18) dX9_isTable_18 (c_X9_layCorners (xl g) (xG g) q F c_this_far c_this_corner c_this_named c_this_tried this_corners_18 this_corner_18 this_named_18 this_tried_18 e18) rfl gX9_isTable_X9_layCorners ⟨rfl, rfl⟩ 0 hd_X9_layCorners ⟨Nat.le_of_ble_eq_true rfl, Nat.le_of_ble_eq_true rfl⟩ rfl 0 rfl rfl rfl [0, 1, 2, 3, 4] rfl (srt_nd 0 rfl) (ws' := w_X9_isTable (xG g) q (up F 23 this_corners_18) c_this_far this_corner_18 this_named_18 this_tried_18) (Put.m rfl rfl rfl) rfl (rest := []) rfl (Nat.le_of_ble_eq_true rfl) ⟨Nat.zero_le _, Nat.zero_le _⟩ ?_
        refine r_sub [1] rfl ?_
        exact hk21 this_corners_18 this_corner_18 this_named_18 this_tried_18 h
  · refine r_if_ge C (pc := 4) 11 dX9_isTable_4 rfl h (fun c4 h => ?_) (fun c4 h => ?_)
    · refine r_iconst C (pc := 11) dX9_isTable_11 ?_
      exact hk12 0 h
    · refine r_iconst C (pc := 7) dX9_isTable_7 ?_
      refine r_goto C (pc := 8) 12 dX9_isTable_8 rfl ?_
      exact hk12 1 h
theorem c_X9_isTable (l : Launch) (G : gG) (q : Nat → Nat) (F : Nat → Int) (c_this_far : Nat → Int) (c_this_corner : Nat → Int) (c_this_named : Nat → Int) (c_this_tried : Nat → Int) (r : Int) (o0 : Int) (o1 : Nat → Int) (o2 : Nat → Int) (o3 : Nat → Int) (hf : f_X9_isTable (F 0) (F 23) c_this_far c_this_corner c_this_named c_this_tried = some (r, o0, o1, o2, o3)) : CTi l yX9_isTable wsX9_isTable rm_X9_isTable G (w_X9_isTable G q F c_this_far c_this_corner c_this_named c_this_tried) [.ref (q 35)] (jz r) (w_X9_isTable G q (up F 23 o0) c_this_far o1 o2 o3) := CTi_of (by decide) rfl rfl (Nat.le_of_ble_eq_true rfl) (fun g C hG hl hF => by
    subst hG
    subst hl
    exact k_X9_isTable C q F c_this_far c_this_corner c_this_named c_this_tried (fun x => x = (r, o0, o1, o2, o3)) (fun r' o0' o1' o2' o3' e => by cases e; exact hF) ⟨_, hf, rfl⟩)

-- TightHullsModel.isCorner(I)Z
def f_X9_isCorner (p1 : Int) (m_corners : Int) : Option Int := bd1 (f_X9_in p1 0 (m_corners - 1)) (fun r8 => grd (isB r8) (some r8))
abbrev rm_X9_isCorner : Room := { frames := 1, cells := 0, slots := 0, locals := 22 }
abbrev w_X9_isCorner (G : gG) (q : Nat → Nat) (F : Nat → Int) : va_W := [((q 35), oX9 F q)]
theorem hd_X9_isCorner : yX9_isCorner.cls = RX9 ∧ yX9_isCorner.cls ≠ "java/lang/invoke/MethodHandle" ∧ yX9_isCorner.cls ≠ "java/lang/invoke/VarHandle" ∧ (parseMethodDescriptor yX9_isCorner.desc).map (fun d => d.parameters.length) = some 1 := by decide +kernel
theorem in_X9_isCorner_X9 : ∀ w ∈ u_ws RX9 TX9 35, w ∈ wsX9_isCorner := fun w h => List.mem_cons_of_mem _ (List.mem_append_right _ (h))
theorem gf_X9_isCorner_130 : GF wsX9_isCorner RX9 130 8 23 := ⟨RX9, TX9, 35, rfl, in_X9_isCorner_X9, by decide, List.mem_of_getElem? (i := 1) rfl⟩
set_option maxRecDepth 100000 in
set_option maxHeartbeats 4000000 in
theorem k_X9_isCorner {g : XC} (C : XOk g cX9_isCorner RX9 wsX9_isCorner rm_X9_isCorner 2) (q : Nat → Nat) (F : Nat → Int) (p1 : Int) (K : Int → Prop) (hK : ∀ (r : Int), K r → (narrow .boolean (.int (jz r)) = .int (jz r) → FinI g 0 0 (w_X9_isCorner (xG g) q F) (jz r))) (h : wp (f_X9_isCorner p1 (F 23)) K) : WW g 0 0 (w_X9_isCorner (xG g) q F) 0 [(0, .ref (q 35)), (1, .int (jz p1))] [] := by
  unfold f_X9_isCorner at h
  refine r_iload_n C (pc := 0) dX9_isCorner_0 rfl 1 rfl ?_
  refine r_iconst C (pc := 1) dX9_isCorner_1 ?_
  refine r_aload_n C (pc := 2) dX9_isCorner_2 rfl 0 rfl ?_
  refine r_get C (pc := 3) dX9_isCorner_3 gf_X9_isCorner_130 0 rfl rfl ?_
  refine r_iconst C (pc := 6) dX9_isCorner_6 ?_
  refine r_isub C (pc := 7) dX9_isCorner_7 ?_
  obtain ⟨r8, e8, h⟩ := wp_b1 h
  refine b_cSi C (pc := 8) dX9_isCorner_8 (c_X9_in (xl g) (xG g) p1 0 ((F 23) - 1) r8 e8) rfl gX9_isCorner_X9_in ⟨rfl, rfl⟩ 3 hd_X9_in ⟨Nat.le_of_ble_eq_true rfl, Nat.le_of_ble_eq_true rfl⟩ rfl [] rfl (srt_nd 0 rfl) (ws' := w_X9_isCorner (xG g) q F) (Put.m rfl rfl rfl) rfl (rest := []) rfl (Nat.le_of_ble_eq_true rfl) ⟨Nat.zero_le _, Nat.zero_le _⟩ ?_
  exact r_iret C (pc := 11) dX9_isCorner_11 (hK r8 (wp_s (wp_g h).2) (nB (wp_g h).1).1)
theorem c_X9_isCorner (l : Launch) (G : gG) (q : Nat → Nat) (F : Nat → Int) (p1 : Int) (r : Int) (hf : f_X9_isCorner p1 (F 23) = some r) : CTi l yX9_isCorner wsX9_isCorner rm_X9_isCorner G (w_X9_isCorner G q F) [.ref (q 35), .int (jz p1)] (jz r) (w_X9_isCorner G q F) := CTi_of (by decide) rfl rfl (Nat.le_of_ble_eq_true rfl) (fun g C hG hl hF => by
    subst hG
    subst hl
    exact k_X9_isCorner C q F p1 (fun x => x = r) (fun r' e => by cases e; exact hF) ⟨_, hf, rfl⟩)

-- TightHullsModel.corners()I
def f_X9_corners (m_points : Int) (m_corners : Int) (c_this_far : Nat → Int) (c_this_corner : Nat → Int) (c_this_named : Nat → Int) (c_this_tried : Nat → Int) : Option (Int × Int × (Nat → Int) × (Nat → Int) × (Nat → Int)) := bd5 (f_X9_isTable m_points m_corners c_this_far c_this_corner c_this_named c_this_tried) (fun r1 this_corners_1 this_corner_1 this_named_1 this_tried_1 => jn (fun (s0_16 : Int) => some (s0_16, this_corners_1, this_corner_1, this_named_1, this_tried_1)) (fun (k16 : Int → Option (Int × Int × (Nat → Int) × (Nat → Int) × (Nat → Int))) => if eqI r1 0 = true then (k16 (-3)) else (k16 this_corners_1)))
abbrev rm_X9_corners : Room := { frames := 5, cells := 0, slots := 0, locals := 115 }
abbrev w_X9_corners (G : gG) (q : Nat → Nat) (F : Nat → Int) (c_this_far : Nat → Int) (c_this_corner : Nat → Int) (c_this_named : Nat → Int) (c_this_tried : Nat → Int) : va_W := [((q 35), oX9 F q), ((q 1), aI G 25 c_this_far), ((q 24), aI G 2000 c_this_corner), ((q 25), aI G 5 c_this_named), ((q 26), aI G 6 c_this_tried)]
theorem hd_X9_corners : yX9_corners.cls = RX9 ∧ yX9_corners.cls ≠ "java/lang/invoke/MethodHandle" ∧ yX9_corners.cls ≠ "java/lang/invoke/VarHandle" ∧ (parseMethodDescriptor yX9_corners.desc).map (fun d => d.parameters.length) = some 0 := by decide +kernel
theorem in_X9_corners_X9 : ∀ w ∈ u_ws RX9 TX9 35, w ∈ wsX9_corners := fun w h => List.mem_cons_of_mem _ (List.mem_append_right _ (h))
theorem gf_X9_corners_130 : GF wsX9_corners RX9 130 8 23 := ⟨RX9, TX9, 35, rfl, in_X9_corners_X9, by decide, List.mem_of_getElem? (i := 1) rfl⟩
set_option maxRecDepth 100000 in
set_option maxHeartbeats 4000000 in
theorem k_X9_corners {g : XC} (C : XOk g cX9_corners RX9 wsX9_corners rm_X9_corners 1) (q : Nat → Nat) (F : Nat → Int) (c_this_far : Nat → Int) (c_this_corner : Nat → Int) (c_this_named : Nat → Int) (c_this_tried : Nat → Int)  (K : (Int × Int × (Nat → Int) × (Nat → Int) × (Nat → Int)) → Prop) (hK : ∀ (r : Int) (o0 : Int) (o1 : Nat → Int) (o2 : Nat → Int) (o3 : Nat → Int), K (r, o0, o1, o2, o3) → (narrow .int (.int (jz r)) = .int (jz r) → FinI g 0 0 (w_X9_corners (xG g) q (up F 23 o0) c_this_far o1 o2 o3) (jz r))) (h : wp (f_X9_corners (F 0) (F 23) c_this_far c_this_corner c_this_named c_this_tried) K) : WW g 0 0 (w_X9_corners (xG g) q F c_this_far c_this_corner c_this_named c_this_tried) 0 [(0, .ref (q 35))] [] := by
  unfold f_X9_corners at h
  refine r_aload_n C (pc := 0) dX9_corners_0 rfl 0 rfl ?_
  obtain ⟨r1, this_corners_1, this_corner_1, this_named_1, this_tried_1, e1, h⟩ := wp_b5 h
  refine b_cVi C (pc := 1) dX9_corners_1 (c_X9_isTable (xl g) (xG g) q F c_this_far c_this_corner c_this_named c_this_tried r1 this_corners_1 this_corner_1 this_named_1 this_tried_1 e1) rfl gX9_corners_X9_isTable ⟨rfl, rfl⟩ 0 hd_X9_isTable ⟨Nat.le_of_ble_eq_true rfl, Nat.le_of_ble_eq_true rfl⟩ rfl 0 rfl rfl rfl [0, 1, 2, 3, 4] rfl (srt_nd 0 rfl) (ws' := w_X9_corners (xG g) q (up F 23 this_corners_1) c_this_far this_corner_1 this_named_1 this_tried_1) (Put.m rfl rfl rfl) rfl (rest := []) rfl (Nat.le_of_ble_eq_true rfl) ⟨Nat.zero_le _, Nat.zero_le _⟩ ?_
  refine jn_e (fun (k16 : Int → Option (Int × Int × (Nat → Int) × (Nat → Int) × (Nat → Int))) => ∀ (s0_16 : Int), wp (k16 s0_16) K → WW g 0 0 (w_X9_corners (xG g) q (up F 23 this_corners_1) c_this_far this_corner_1 this_named_1 this_tried_1) 16 [] [.int (jz s0_16)]) h (fun s0_16 h => ?_) (fun k16 hk16 h => ?_)
  · exact r_iret C (pc := 16) dX9_corners_16 (hK s0_16 this_corners_1 this_corner_1 this_named_1 this_tried_1 (wp_s h) rfl)
  · refine r_if_eq C (pc := 4) 14 dX9_corners_4 rfl h (fun c4 h => ?_) (fun c4 h => ?_)
    · refine r_bipush C (pc := 14) dX9_corners_14 rfl ?_
      refine r_sub [] rfl ?_
      exact hk16 (-3) h
    · refine r_aload_n C (pc := 7) dX9_corners_7 rfl 0 rfl ?_
      refine r_get C (pc := 8) dX9_corners_8 gf_X9_corners_130 0 rfl rfl ?_
      refine r_goto C (pc := 11) 16 dX9_corners_11 rfl ?_
      refine r_sub [] rfl ?_
      exact hk16 this_corners_1 h
theorem c_X9_corners (l : Launch) (G : gG) (q : Nat → Nat) (F : Nat → Int) (c_this_far : Nat → Int) (c_this_corner : Nat → Int) (c_this_named : Nat → Int) (c_this_tried : Nat → Int) (r : Int) (o0 : Int) (o1 : Nat → Int) (o2 : Nat → Int) (o3 : Nat → Int) (hf : f_X9_corners (F 0) (F 23) c_this_far c_this_corner c_this_named c_this_tried = some (r, o0, o1, o2, o3)) : CTi l yX9_corners wsX9_corners rm_X9_corners G (w_X9_corners G q F c_this_far c_this_corner c_this_named c_this_tried) [.ref (q 35)] (jz r) (w_X9_corners G q (up F 23 o0) c_this_far o1 o2 o3) := CTi_of (by decide) rfl rfl (Nat.le_of_ble_eq_true rfl) (fun g C hG hl hF => by
    subst hG
    subst hl
    exact k_X9_corners C q F c_this_far c_this_corner c_this_named c_this_tried (fun x => x = (r, o0, o1, o2, o3)) (fun r' o0' o1' o2' o3' e => by cases e; exact hF) ⟨_, hf, rfl⟩)

-- TightHullsModel.at(II)I
def f_X9_at (p1 : Int) (p2 : Int) (m_points : Int) (m_corners : Int) (c_this_far : Nat → Int) (c_this_corner : Nat → Int) (c_this_named : Nat → Int) (c_this_tried : Nat → Int) : Option (Int × Int × (Nat → Int) × (Nat → Int) × (Nat → Int)) := bd5 (f_X9_isTable m_points m_corners c_this_far c_this_corner c_this_named c_this_tried) (fun r1 this_corners_1 this_corner_1 this_named_1 this_tried_1 => if eqI r1 0 = true then (some ((-3), this_corners_1, this_corner_1, this_named_1, this_tried_1)) else (bd1 (f_X9_isCorner p1 this_corners_1) (fun r12 => jn (fun (s0_40 : Int) => some (s0_40, this_corners_1, this_corner_1, this_named_1, this_tried_1)) (fun (k40 : Int → Option (Int × Int × (Nat → Int) × (Nat → Int) × (Nat → Int))) => jn (k40 (-1)) (fun (k39 : Option (Int × Int × (Nat → Int) × (Nat → Int) × (Nat → Int))) => if eqI r12 0 = true then k39 else (bd1 (f_X9_isPoint p2 m_points) (fun r20 => if eqI r20 0 = true then k39 else (grd (iin ((5 * p1) + p2) 2000) (k40 (this_corner_1 (ix ((5 * p1) + p2))))))))))))
abbrev rm_X9_at : Room := { frames := 5, cells := 0, slots := 0, locals := 115 }
abbrev w_X9_at (G : gG) (q : Nat → Nat) (F : Nat → Int) (c_this_far : Nat → Int) (c_this_corner : Nat → Int) (c_this_named : Nat → Int) (c_this_tried : Nat → Int) : va_W := [((q 35), oX9 F q), ((q 1), aI G 25 c_this_far), ((q 24), aI G 2000 c_this_corner), ((q 25), aI G 5 c_this_named), ((q 26), aI G 6 c_this_tried)]
theorem hd_X9_at : yX9_at.cls = RX9 ∧ yX9_at.cls ≠ "java/lang/invoke/MethodHandle" ∧ yX9_at.cls ≠ "java/lang/invoke/VarHandle" ∧ (parseMethodDescriptor yX9_at.desc).map (fun d => d.parameters.length) = some 2 := by decide +kernel
theorem in_X9_at_X9 : ∀ w ∈ u_ws RX9 TX9 35, w ∈ wsX9_at := fun w h => List.mem_cons_of_mem _ (List.mem_append_right _ (h))
theorem gf_X9_at_71 : GF wsX9_at RX9 71 8 24 := ⟨RX9, TX9, 35, rfl, in_X9_at_X9, by decide, List.mem_of_getElem? (i := 1) rfl⟩
set_option maxRecDepth 100000 in
set_option maxHeartbeats 4000000 in
theorem k_X9_at {g : XC} (C : XOk g cX9_at RX9 wsX9_at rm_X9_at 3) (q : Nat → Nat) (F : Nat → Int) (c_this_far : Nat → Int) (c_this_corner : Nat → Int) (c_this_named : Nat → Int) (c_this_tried : Nat → Int) (p1 : Int) (p2 : Int) (K : (Int × Int × (Nat → Int) × (Nat → Int) × (Nat → Int)) → Prop) (hK : ∀ (r : Int) (o0 : Int) (o1 : Nat → Int) (o2 : Nat → Int) (o3 : Nat → Int), K (r, o0, o1, o2, o3) → (narrow .int (.int (jz r)) = .int (jz r) → FinI g 0 0 (w_X9_at (xG g) q (up F 23 o0) c_this_far o1 o2 o3) (jz r))) (h : wp (f_X9_at p1 p2 (F 0) (F 23) c_this_far c_this_corner c_this_named c_this_tried) K) : WW g 0 0 (w_X9_at (xG g) q F c_this_far c_this_corner c_this_named c_this_tried) 0 [(0, .ref (q 35)), (1, .int (jz p1)), (2, .int (jz p2))] [] := by
  unfold f_X9_at at h
  refine r_aload_n C (pc := 0) dX9_at_0 rfl 0 rfl ?_
  obtain ⟨r1, this_corners_1, this_corner_1, this_named_1, this_tried_1, e1, h⟩ := wp_b5 h
  refine b_cVi C (pc := 1) dX9_at_1 (c_X9_isTable (xl g) (xG g) q F c_this_far c_this_corner c_this_named c_this_tried r1 this_corners_1 this_corner_1 this_named_1 this_tried_1 e1) rfl gX9_at_X9_isTable ⟨rfl, rfl⟩ 0 hd_X9_isTable ⟨Nat.le_of_ble_eq_true rfl, Nat.le_of_ble_eq_true rfl⟩ rfl 0 rfl rfl rfl [0, 1, 2, 3, 4] rfl (srt_nd 0 rfl) (ws' := w_X9_at (xG g) q (up F 23 this_corners_1) c_this_far this_corner_1 this_named_1 this_tried_1) (Put.m rfl rfl rfl) rfl (rest := []) rfl (Nat.le_of_ble_eq_true rfl) ⟨Nat.zero_le _, Nat.zero_le _⟩ ?_
  refine r_if_ne C (pc := 4) 10 dX9_at_4 rfl h (fun c4 h => ?_) (fun c4 h => ?_)
  · refine r_aload_n C (pc := 10) dX9_at_10 rfl 0 rfl ?_
    refine r_iload_n C (pc := 11) dX9_at_11 rfl 1 rfl ?_
    obtain ⟨r12, e12, h⟩ := wp_b1 h
    refine b_cVi C (pc := 12) dX9_at_12 (c_X9_isCorner (xl g) (xG g) q (up F 23 this_corners_1) p1 r12 e12) rfl gX9_at_X9_isCorner ⟨rfl, rfl⟩ 1 hd_X9_isCorner ⟨Nat.le_of_ble_eq_true rfl, Nat.le_of_ble_eq_true rfl⟩ rfl 0 rfl rfl rfl [0] rfl (srt_nd 0 rfl) (ws' := w_X9_at (xG g) q (up F 23 this_corners_1) c_this_far this_corner_1 this_named_1 this_tried_1) (Put.m rfl rfl rfl) rfl (rest := []) rfl (Nat.le_of_ble_eq_true rfl) ⟨Nat.zero_le _, Nat.zero_le _⟩ ?_
    refine jn_e (fun (k40 : Int → Option (Int × Int × (Nat → Int) × (Nat → Int) × (Nat → Int))) => ∀ (s0_40 : Int), wp (k40 s0_40) K → WW g 0 0 (w_X9_at (xG g) q (up F 23 this_corners_1) c_this_far this_corner_1 this_named_1 this_tried_1) 40 [] [.int (jz s0_40)]) h (fun s0_40 h => ?_) (fun k40 hk40 h => ?_)
    · exact r_iret C (pc := 40) dX9_at_40 (hK s0_40 this_corners_1 this_corner_1 this_named_1 this_tried_1 (wp_s h) rfl)
    · refine jn_e (fun (k39 : Option (Int × Int × (Nat → Int) × (Nat → Int) × (Nat → Int))) => wp (k39) K → WW g 0 0 (w_X9_at (xG g) q (up F 23 this_corners_1) c_this_far this_corner_1 this_named_1 this_tried_1) 39 [] []) h (fun h => ?_) (fun k39 hk39 h => ?_)
      · refine r_iconst C (pc := 39) dX9_at_39 ?_
        exact hk40 (-1) h
      · refine r_if_eq C (pc := 15) 39 dX9_at_15 rfl h (fun c15 h => ?_) (fun c15 h => ?_)
        · refine r_sub [] rfl ?_
          exact hk39 h
        · refine r_aload_n C (pc := 18) dX9_at_18 rfl 0 rfl ?_
          refine r_iload_n C (pc := 19) dX9_at_19 rfl 2 rfl ?_
          obtain ⟨r20, e20, h⟩ := wp_b1 h
          refine b_cVi C (pc := 20) dX9_at_20 (c_X9_isPoint (xl g) (xG g) q (up F 23 this_corners_1) p2 r20 e20) rfl gX9_at_X9_isPoint ⟨rfl, rfl⟩ 1 hd_X9_isPoint ⟨Nat.le_of_ble_eq_true rfl, Nat.le_of_ble_eq_true rfl⟩ rfl 0 rfl rfl rfl [0] rfl (srt_nd 0 rfl) (ws' := w_X9_at (xG g) q (up F 23 this_corners_1) c_this_far this_corner_1 this_named_1 this_tried_1) (Put.m rfl rfl rfl) rfl (rest := []) rfl (Nat.le_of_ble_eq_true rfl) ⟨Nat.zero_le _, Nat.zero_le _⟩ ?_
          refine r_if_eq C (pc := 23) 39 dX9_at_23 rfl h (fun c23 h => ?_) (fun c23 h => ?_)
          · refine r_sub [] rfl ?_
            exact hk39 h
          · refine r_aload_n C (pc := 26) dX9_at_26 rfl 0 rfl ?_
            refine r_get C (pc := 27) dX9_at_27 gf_X9_at_71 0 rfl rfl ?_
            refine r_iconst C (pc := 30) dX9_at_30 ?_
            refine r_iload_n C (pc := 31) dX9_at_31 rfl 1 rfl ?_
            refine r_imul C (pc := 32) dX9_at_32 ?_
            refine r_iload_n C (pc := 33) dX9_at_33 rfl 2 rfl ?_
            refine r_iadd C (pc := 34) dX9_at_34 ?_
            refine r_iald C (pc := 35) dX9_at_35 h 2 rfl (fun h => ?_)
            refine r_goto C (pc := 36) 40 dX9_at_36 rfl ?_
            refine r_sub [] rfl ?_
            exact hk40 (this_corner_1 (ix ((5 * p1) + p2))) h
  · refine r_bipush C (pc := 7) dX9_at_7 rfl ?_
    exact r_iret C (pc := 9) dX9_at_9 (hK (-3) this_corners_1 this_corner_1 this_named_1 this_tried_1 (wp_s h) rfl)
theorem c_X9_at (l : Launch) (G : gG) (q : Nat → Nat) (F : Nat → Int) (c_this_far : Nat → Int) (c_this_corner : Nat → Int) (c_this_named : Nat → Int) (c_this_tried : Nat → Int) (p1 : Int) (p2 : Int) (r : Int) (o0 : Int) (o1 : Nat → Int) (o2 : Nat → Int) (o3 : Nat → Int) (hf : f_X9_at p1 p2 (F 0) (F 23) c_this_far c_this_corner c_this_named c_this_tried = some (r, o0, o1, o2, o3)) : CTi l yX9_at wsX9_at rm_X9_at G (w_X9_at G q F c_this_far c_this_corner c_this_named c_this_tried) [.ref (q 35), .int (jz p1), .int (jz p2)] (jz r) (w_X9_at G q (up F 23 o0) c_this_far o1 o2 o3) := CTi_of (by decide) rfl rfl (Nat.le_of_ble_eq_true rfl) (fun g C hG hl hF => by
    subst hG
    subst hl
    exact k_X9_at C q F c_this_far c_this_corner c_this_named c_this_tried p1 p2 (fun x => x = (r, o0, o1, o2, o3)) (fun r' o0' o1' o2' o3' e => by cases e; exact hF) ⟨_, hf, rfl⟩)
