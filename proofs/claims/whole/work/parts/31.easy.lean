/-! PURE PART: function, map, middle, count, feed -/
theorem st_3 {x : Nat → Int} {X : Nat → Nat → Int} {kx : Nat → Int64} {it : Nat → Nat → Int64} {F : Nat → Int} {B : Nat → Nat → Int} {cl bt : Nat → Int64} (h : Rel x X kx it F B cl bt) (p1 : Int) (g1 : rg p1) (p2 : Int) (g2 : rg p2) : ∃ (r : Int) (o0 : Nat → Int) (o0' : Nat → Int), f_X8_function p1 p2 (x 1) (X 1) = some (r, o0) ∧ f_X9_function p1 p2 (F 0) (B 2) = some (r, o0') ∧ Rel x (up X 1 o0) kx it F (up B 2 o0') cl bt := by
  obtain ⟨⟨⟨e0, h3, h5, tg, tf, ag⟩, hNu, hMp, hSe, hEv, hBo⟩, hC, hI, hSp, hHu, hT, hTa⟩ := h
  rw [e0]
  by_cases c : 0 ≤ p1 ∧ p1 < x 1
  · obtain ⟨i, rfl⟩ := toN c.1
    have hi : i < 5 := by omega
    obtain ⟨n1, n2, n3⟩ := hNu i hi
    have in3 : f_X9_in p2 0 160 = some (b01 (0 ≤ p2 ∧ p2 ≤ 160)) := in_X9 g2 ⟨by omega, by omega⟩ ⟨by omega, by omega⟩
    have e1 : iin (i : Int) 5 = true := iin_t (by omega) (by omega) (by omega)
    have e2 : ix (i : Int) = i := ix_nat (by omega)
    by_cases c3 : 0 ≤ p2 ∧ p2 ≤ 160
    · refine ⟨X 1 i, up (X 1) i p2, up (B 2) i p2, ?_, ?_, ?_⟩
      · unfold f_X8_function
        rw [has_X4 g1 h3 h5, b01_t c]
        obtain ⟨z1, z2⟩ := g2
        simp (disch := omega) only [bd1_s, jn, ltI_eq, grd_s e1, e2, lv]
        rw [if_neg (by decide), decide_eq_false (by omega), decide_eq_false (by omega)]
        rfl
      · unfold f_X9_function
        rw [isPoint_X9 g1 h3 h5, b01_t c, in3, b01_t c3]
        simp only [bd1_s, grd_s e1, e2, lv]
        rw [if_neg (by decide), if_neg (by decide), n1]
      · refine ⟨⟨⟨e0, h3, h5, tg, tf, ag⟩, fun k hk => ?_, hMp, hSe, hEv, hBo⟩, hC, hI, hSp, hHu, hT, hTa⟩
        show up (X 1) i p2 k = up (B 2) i p2 k ∧ 0 ≤ up (X 1) i p2 k ∧ up (X 1) i p2 k ≤ 160
        by_cases q : k = i
        · subst q
          rw [up_eq, up_eq]
          exact ⟨rfl, c3⟩
        · rw [up_ne _ _ q, up_ne _ _ q]
          exact hNu k hk
    · refine ⟨-2, X 1, B 2, ?_, ?_, ?_⟩
      · unfold f_X8_function
        rw [has_X4 g1 h3 h5, b01_t c]
        obtain ⟨z1, z2⟩ := g2
        simp (disch := omega) only [bd1_s, jn, ltI_eq]
        rw [if_neg (by decide)]
        by_cases c4 : p2 < 0
        · rw [decide_eq_true c4]; rfl
        · rw [decide_eq_false c4, decide_eq_true (by omega : (160 : Int) < p2)]; rfl
      · unfold f_X9_function
        rw [isPoint_X9 g1 h3 h5, b01_t c, in3, b01_f c3]
        rfl
      · exact ⟨⟨⟨e0, h3, h5, tg, tf, ag⟩, hNu, hMp, hSe, hEv, hBo⟩, hC, hI, hSp, hHu, hT, hTa⟩
  · refine ⟨-1, X 1, B 2, ?_, ?_, ?_⟩
    · unfold f_X8_function
      rw [has_X4 g1 h3 h5, b01_f c]
      rfl
    · unfold f_X9_function
      rw [isPoint_X9 g1 h3 h5, b01_f c]
      rfl
    · exact ⟨⟨⟨e0, h3, h5, tg, tf, ag⟩, hNu, hMp, hSe, hEv, hBo⟩, hC, hI, hSp, hHu, hT, hTa⟩
theorem st_5 {x : Nat → Int} {X : Nat → Nat → Int} {kx : Nat → Int64} {it : Nat → Nat → Int64} {F : Nat → Int} {B : Nat → Nat → Int} {cl bt : Nat → Int64} (h : Rel x X kx it F B cl bt) (p1 : Int) (g1 : rg p1) (p2 : Int) (g2 : rg p2) : ∃ (r : Int) (o0 : Nat → Int) (o0' : Nat → Int), f_X8_map p1 p2 (x 1) (X 2) = some (r, o0) ∧ f_X9_map p1 p2 (F 0) (B 3) = some (r, o0') ∧ Rel x (up X 2 o0) kx it F (up B 3 o0') cl bt := by
  obtain ⟨⟨⟨e0, h3, h5, tg, tf, ag⟩, hNu, hMp, hSe, hEv, hBo⟩, hC, hI, hSp, hHu, hT, hTa⟩ := h
  rw [e0]
  by_cases c : 0 ≤ p1 ∧ p1 < x 1
  · obtain ⟨i, rfl⟩ := toN c.1
    have hi : i < 5 := by omega
    obtain ⟨n1, n2, n3, n4⟩ := hMp i hi
    have e1 : iin (i : Int) 5 = true := iin_t (by omega) (by omega) (by omega)
    have e2 : ix (i : Int) = i := ix_nat (by omega)
    by_cases c3 : 0 ≤ p2 ∧ p2 < x 1
    · refine ⟨X 2 i, up (X 2) i p2, up (B 3) i p2, ?_, ?_, ?_⟩
      · unfold f_X8_map
        rw [has_X4 g1 h3 h5, b01_t c, has_X4 g2 h3 h5, b01_t c3]
        simp only [bd1_s, jn, grd_s e1, e2, lv]
        rw [if_neg (by decide), if_neg (by decide)]
      · unfold f_X9_map
        rw [isPoint_X9 g1 h3 h5, b01_t c, isPoint_X9 g2 h3 h5, b01_t c3]
        simp only [bd1_s, jn, grd_s e1, e2, lv]
        rw [if_neg (by decide), if_neg (by decide), n1]
      · refine ⟨⟨⟨e0, h3, h5, tg, tf, ag⟩, hNu, fun k hk => ?_, hSe, hEv, hBo⟩, hC, hI, hSp, hHu, hT, hTa⟩
        show up (X 2) i p2 k = up (B 3) i p2 k ∧ 0 ≤ up (X 2) i p2 k ∧ up (X 2) i p2 k < 5 ∧ ((k : Int) < x 1 → up (X 2) i p2 k < x 1)
        by_cases q : k = i
        · subst q
          rw [up_eq, up_eq]
          exact ⟨rfl, c3.1, by omega, fun _ => c3.2⟩
        · rw [up_ne _ _ q, up_ne _ _ q]
          exact hMp k hk
    · refine ⟨-1, X 2, B 3, ?_, ?_, ?_⟩
      · unfold f_X8_map
        rw [has_X4 g1 h3 h5, b01_t c, has_X4 g2 h3 h5, b01_f c3]
        rfl
      · unfold f_X9_map
        rw [isPoint_X9 g1 h3 h5, b01_t c, isPoint_X9 g2 h3 h5, b01_f c3]
        rfl
      · exact ⟨⟨⟨e0, h3, h5, tg, tf, ag⟩, hNu, hMp, hSe, hEv, hBo⟩, hC, hI, hSp, hHu, hT, hTa⟩
  · refine ⟨-1, X 2, B 3, ?_, ?_, ?_⟩
    · unfold f_X8_map
      rw [has_X4 g1 h3 h5, b01_f c]
      rfl
    · unfold f_X9_map
      rw [isPoint_X9 g1 h3 h5, b01_f c]
      rfl
    · exact ⟨⟨⟨e0, h3, h5, tg, tf, ag⟩, hNu, hMp, hSe, hEv, hBo⟩, hC, hI, hSp, hHu, hT, hTa⟩
theorem st_12 {x : Nat → Int} {X : Nat → Nat → Int} {kx : Nat → Int64} {it : Nat → Nat → Int64} {F : Nat → Int} {B : Nat → Nat → Int} {cl bt : Nat → Int64} (h : Rel x X kx it F B cl bt) (p1 : Int) (g1 : rg p1) (p2 : Int) (g2 : rg p2) (p3 : Int) (g3 : rg p3) : ∃ (r : Int), f_X8_middle p1 p2 p3 (x 1) (X 0) = some r ∧ f_X9_middle p1 p2 p3 (F 0) (B 1) = some r ∧ Rel x X kx it F B cl bt := by
  have hR := h
  obtain ⟨⟨⟨e0, h3, h5, tg, tf, ag⟩, -⟩, -⟩ := h
  unfold f_X8_middle f_X9_middle
  rw [e0, has_X4 g1 h3 h5, has_X4 g2 h3 h5, has_X4 g3 h3 h5, isPoint_X9 g1 h3 h5, isPoint_X9 g2 h3 h5, isPoint_X9 g3 h3 h5]
  by_cases c1 : 0 ≤ p1 ∧ p1 < x 1
  · rw [b01_t c1]
    by_cases c2 : 0 ≤ p2 ∧ p2 < x 1
    · rw [b01_t c2]
      by_cases c3 : 0 ≤ p3 ∧ p3 < x 1
      · rw [b01_t c3]
        obtain ⟨i, rfl⟩ := toN c1.1
        obtain ⟨j, rfl⟩ := toN c2.1
        obtain ⟨k, rfl⟩ := toN c3.1
        rw [gap_N c1.2 c2.2 h5, gap_N c1.2 c3.2 h5, gap_N c2.2 c3.2 h5, d_N (by omega) (by omega), d_N (by omega) (by omega), d_N (by omega) (by omega), ag i j c1.2 c2.2, ag i k c1.2 c3.2, ag j k c2.2 c3.2]
        exact ⟨_, rfl, rfl, hR⟩
      · rw [b01_f c3]
        exact ⟨-1, rfl, rfl, hR⟩
    · rw [b01_f c2]
      exact ⟨-1, rfl, rfl, hR⟩
  · rw [b01_f c1]
    exact ⟨-1, rfl, rfl, hR⟩
theorem st_32 {x : Nat → Int} {X : Nat → Nat → Int} {kx : Nat → Int64} {it : Nat → Nat → Int64} {F : Nat → Int} {B : Nat → Nat → Int} {cl bt : Nat → Int64} (h : Rel x X kx it F B cl bt) (p1 : Int) (g1 : rg p1) : ∃ (r : Int), f_X8_count p1 (x 3) (x 5) (x 7) (x 23) = some r ∧ f_X9_count p1 (F 4) (F 7) (F 10) (F 15) = some r ∧ Rel x X kx it F B cl bt := by
  have hR := h
  obtain ⟨⟨-, -, -, ⟨s1, -⟩, ⟨v1, -⟩, ⟨b1, -⟩⟩, -, -, -, -, ⟨t1, -⟩, -⟩ := h
  unfold f_X8_count f_X9_count
  rw [s1, v1, b1, t1]
  refine ⟨if eqI p1 0 = true then x 3 else if eqI p1 1 = true then x 5 else if eqI p1 2 = true then x 7 else if eqI p1 3 = true then x 23 else -2, ?_, ?_, hR⟩ <;> repeat' split
  all_goals rfl
theorem byI_s {p : Int} (h0 : 0 ≤ p) (h : p ≤ 127) : byI p = p := by
  have key : ∀ k : Nat, k < 128 → byI (k : Int) = k := by decide +kernel
  obtain ⟨k, rfl⟩ := toN h0
  exact key k (by omega)
theorem st_6 {x : Nat → Int} {X : Nat → Nat → Int} {kx : Nat → Int64} {it : Nat → Nat → Int64} {F : Nat → Int} {B : Nat → Nat → Int} {cl bt : Nat → Int64} (h : Rel x X kx it F B cl bt) (p1 : Int) (g1 : rg p1) : ∃ (r : Int) (o0 : Int) (o1 : Nat → Int) (o0' : Int) (o1' : Nat → Int), f_X8_feed p1 (x 23) (X 19) = some (r, o0, o1) ∧ f_X9_feed p1 (F 15) (B 14) = some (r, o0', o1') ∧ Rel (up x 23 o0) (up X 19 o1) kx it (up F 15 o0') (up B 14 o1') cl bt := by
  obtain ⟨hS, hC, hI, hSp, hHu, ⟨t1, t2, t3, t4⟩, hTa⟩ := h
  have in3 : f_X9_in p1 0 127 = some (b01 (0 ≤ p1 ∧ p1 ≤ 127)) := in_X9 g1 ⟨by omega, by omega⟩ ⟨by omega, by omega⟩
  unfold f_X8_feed f_X9_feed f_X6_add
  rw [in3, t1]
  obtain ⟨z1, z2⟩ := g1
  by_cases c : 0 ≤ p1 ∧ p1 ≤ 127
  · rw [b01_t c]
    simp (disch := omega) only [bd1_s, jn, ltI_eq, eqI_eq, lv, byI_s c.1 c.2]
    rw [decide_eq_false (by omega : ¬ p1 < 0), decide_eq_false (by omega : ¬ (127 : Int) < p1)]
    by_cases c2 : x 23 < 100
    · have e1 : iin (x 23) 100 = true := iin_t (by omega) (by omega) (by omega)
      rw [decide_eq_true c2, decide_eq_false (by omega : ¬ x 23 = 100)]
      simp only [grd_s e1, if_true, bd3_s]
      obtain ⟨m, hm⟩ := toN t2
      refine ⟨x 23 + 1, x 23 + 1, up (X 19) (ix (x 23)) p1, x 23 + 1, up (B 14) (ix (x 23)) p1, rfl, rfl, hS, hC, hI, hSp, hHu, ⟨rfl, by show 0 ≤ x 23 + 1; omega, by show x 23 + 1 ≤ 100; omega, fun k hk => ?_⟩, hTa⟩
      show up (X 19) (ix (x 23)) p1 k = up (B 14) (ix (x 23)) p1 k ∧ 0 ≤ up (X 19) (ix (x 23)) p1 k ∧ up (X 19) (ix (x 23)) p1 k ≤ 127
      have hk' : (k : Int) < x 23 + 1 := hk
      rw [hm, ix_nat (by omega)]
      by_cases q : k = m
      · subst q
        rw [up_eq, up_eq]
        exact ⟨rfl, c⟩
      · rw [up_ne _ _ q, up_ne _ _ q]
        exact t4 k (by omega)
    · rw [decide_eq_false c2, decide_eq_true (by omega : x 23 = 100)]
      exact ⟨-4, x 23, X 19, x 23, B 14, rfl, rfl, hS, hC, hI, hSp, hHu, ⟨rfl, t2, t3, t4⟩, hTa⟩
  · rw [b01_f c]
    refine ⟨-2, x 23, X 19, x 23, B 14, ?_, rfl, hS, hC, hI, hSp, hHu, ⟨rfl, t2, t3, t4⟩, hTa⟩
    simp (disch := omega) only [jn, ltI_eq]
    by_cases c4 : p1 < 0
    · rw [decide_eq_true c4]; rfl
    · rw [decide_eq_false c4, decide_eq_true (by omega : (127 : Int) < p1)]; rfl
