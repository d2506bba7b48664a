/-! PURE PART: the image, both sides -/
theorem RSet_ref {n : Int} {g nu im : Nat → Int} {sh : Int} {sc : Nat → Int} {eh : Int} {ec : Nat → Int} {bh : Int} {bc : Nat → Int} {m : Int} {far nb be : Nat → Int} {s : Int} {sS sW : Nat → Int} {e : Int} {eW eB : Nat → Int} {b : Int} {b1 b2 b3 far' nb' be' sS' sW' eW' eB' b1' b2' b3' : Nat → Int} (H : RSet n g nu im sh sc eh ec bh bc m far nb be s sS sW e eW eB b b1 b2 b3) (c0 : ∀ k : Nat, k < 25 → far' k = far k) (c1 : ∀ k : Nat, k < 5 → nb' k = nb k) (c2 : ∀ k : Nat, k < 5 → be' k = be k) (c3 : ∀ k : Nat, k < 4 → sS' k = sS k) (c4 : ∀ k : Nat, k < 4 → sW' k = sW k) (c5 : ∀ k : Nat, k < 8 → eW' k = eW k) (c6 : ∀ k : Nat, k < 8 → eB' k = eB k) (c7 : ∀ k : Nat, k < 8 → b1' k = b1 k) (c8 : ∀ k : Nat, k < 8 → b2' k = b2 k) (c9 : ∀ k : Nat, k < 8 → b3' k = b3 k) : RSet n g nu im sh sc eh ec bh bc m far' nb' be' s sS' sW' e eW' eB' b b1' b2' b3' := by
  obtain ⟨⟨e0, h3, h5, tg, tf, ag⟩, hNu, hMp, ⟨s1, s2, s3, s4⟩, ⟨q1, q2, q3, q4⟩, ⟨r1, r2, r3, r4⟩⟩ := H
  refine ⟨⟨e0, h3, h5, tg, Tb_copy tf c0, fun i j hi hj => ?_⟩, fun k hk => ?_, fun k hk => ?_, ⟨s1, s2, s3, fun k hk => ?_⟩, ⟨q1, q2, q3, fun k hk => ?_⟩, ⟨r1, r2, r3, fun k hk => ?_⟩⟩
  · rw [c0 _ (by omega)]
    exact ag i j hi hj
  · rw [c1 k hk]
    exact hNu k hk
  · rw [c2 k hk]
    exact hMp k hk
  · rw [c3 k (by omega), c4 k (by omega)]
    exact s4 k hk
  · rw [c5 k (by omega), c6 k (by omega)]
    exact q4 k hk
  · rw [c7 k (by omega), c8 k (by omega), c9 k (by omega)]
    exact r4 k hk
theorem st_30 {x : Nat → Int} {X : Nat → Nat → Int} {kx : Nat → Int64} {it : Nat → Nat → Int64} {F : Nat → Int} {B : Nat → Nat → Int} {cl bt : Nat → Int64} (h : Rel x X kx it F B cl bt) : ∃ (r : Int) (o0 : Int) (o1 : Int) (o2 : Nat → Int) (o3 : Nat → Int) (o4 : Nat → Int) (o5 : Int) (o6 : Nat → Int) (o7 : Int) (o8 : Nat → Int) (o9 : Int) (o10 : Nat → Int) (o0' : Int) (o1' : Nat → Int), f_X8_image (x 0) (x 1) (X 0) (X 1) (X 2) (x 3) (X 3) (x 5) (X 4) (x 7) (X 5) (x 8) (X 6) (X 7) (X 8) (x 9) (x 10) (X 9) (x 11) (x 12) (X 10) (x 13) (x 14) (X 11) = some (r, o0, o1, o2, o3, o4, o5, o6, o7, o8, o9, o10) ∧ f_X9_image (F 0) (F 4) (F 7) (F 10) (F 33) (B 1) (B 2) (B 3) (B 5) (B 6) (B 8) (B 9) (B 11) (B 12) (B 13) (B 34) = some (r, o0', o1') ∧ Rel (up (up (up (up (up x 0 o0) 8 o1) 10 o5) 12 o7) 14 o9) (up (up (up (up (up (up X 6 o2) 7 o3) 8 o4) 9 o6) 10 o8) 11 o10) kx it (up F 33 o0') (up B 34 o1') cl bt := by
  obtain ⟨hR, hC, hI, hSp, hHu, hT, hTa⟩ := h
  obtain ⟨k1, k2, k3, k4, k5, k6⟩ := id hC
  obtain ⟨⟨e0, h3, h5, tg, tf, ag⟩, -⟩ := id hR
  obtain ⟨r, g1, g2⟩ := girth_same h3 h5 tf ag
  obtain ⟨g', nu', im', sc', ec', bc', a1, a2⟩ := become_X2 hR (x 8) (x 10) (x 12) (x 14) (X 6) (X 7) (X 8) (X 9) (X 10) (X 11)
  obtain ⟨I, b1, b2, b3, b4, b5, b6⟩ := image_X9 (n := F 0) (s := F 4) (e := F 7) (b := F 10) (hi := F 33) (nb := B 2) (be := B 3) (sS := B 5) (sW := B 6) (eW := B 8) (eB := B 9) (b1 := B 11) (b2 := B 12) (b3 := B 13) (J := B 34) (by rw [e0]; exact g2)
  refine ⟨r, 1, x 1, g', nu', im', x 3, sc', x 5, ec', x 7, bc', 1, I, ?_, b1, hR, hC, ⟨Or.inr rfl, rfl, fun _ => ?_⟩, hSp, hHu, hT, hTa⟩
  · unfold f_X8_image
    rw [k4, k5, k6, a1]
    show grd (isB 1) (bd1 (f_X4_girth (x 1) (X 0)) _) = _
    rw [grd_s (show isB 1 = true from rfl), g1, bd1_s]
  · show RSet (x 1) g' nu' im' (x 3) sc' (x 5) ec' (x 7) bc' (I 83) I (fun k => I (25 + k)) (fun k => I (30 + k)) (I 84) (fun k => I (35 + k)) (fun k => I (39 + k)) (I 85) (fun k => I (43 + k)) (fun k => I (51 + k)) (I 86) (fun k => I (59 + k)) (fun k => I (67 + k)) (fun k => I (75 + k))
    rw [b3, b4, b5, b6]
    refine RSet_ref a2 (fun k hk => ?_) (fun k hk => ?_) (fun k hk => ?_) (fun k hk => ?_) (fun k hk => ?_) (fun k hk => ?_) (fun k hk => ?_) (fun k hk => ?_) (fun k hk => ?_) (fun k hk => ?_)
    · rw [b2 k (by omega), iT_far hk]
    · show I (25 + k) = _
      rw [b2 _ (by omega), iT_nb hk]
    · show I (30 + k) = _
      rw [b2 _ (by omega), iT_be hk]
    · show I (35 + k) = _
      rw [b2 _ (by omega), iT_sS hk]
    · show I (39 + k) = _
      rw [b2 _ (by omega), iT_sW hk]
    · show I (43 + k) = _
      rw [b2 _ (by omega), iT_eW hk]
    · show I (51 + k) = _
      rw [b2 _ (by omega), iT_eB hk]
    · show I (59 + k) = _
      rw [b2 _ (by omega), iT_b1 hk]
    · show I (67 + k) = _
      rw [b2 _ (by omega), iT_b2 hk]
    · show I (75 + k) = _
      rw [b2 _ (by omega), iT_b3 hk]
