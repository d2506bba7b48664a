/-! PURE PART: single distances, numbers, the map -/
theorem up_eq {α : Type} (f : Nat → α) (k : Nat) (v : α) : up f k v k = v := if_pos rfl
theorem up_ne {α : Type} (f : Nat → α) {k j : Nat} (v : α) (h : j ≠ k) : up f k v j = f j := if_neg h
theorem ix5 {i j i' j' : Nat} (h1 : j < 5) (h2 : j' < 5) : 5 * i + j = 5 * i' + j' ↔ i = i' ∧ j = j' := by omega
theorem put2_at (g : Nat → Int) {p q : Nat} (v : Int) {i j : Nat} (hp : p < 5) (hq : q < 5) (hi : i < 5) (hj : j < 5) : put2 g p q v (5 * i + j) = if (i = p ∧ j = q) ∨ (i = q ∧ j = p) then v else g (5 * i + j) := by
  unfold put2 up
  have e1 : (5 * (q : Int) + p).toNat = 5 * q + p := by omega
  have e2 : (5 * (p : Int) + q).toNat = 5 * p + q := by omega
  rw [e1, e2]
  have a1 := ix5 (i := i) (i' := q) hj hp
  have a2 := ix5 (i := i) (i' := p) hj hq
  by_cases c1 : 5 * i + j = 5 * q + p
  · rw [if_pos c1, if_pos (Or.inr (a1.mp c1))]
  · rw [if_neg c1]
    by_cases c2 : 5 * i + j = 5 * p + q
    · rw [if_pos c2, if_pos (Or.inl (a2.mp c2))]
    · rw [if_neg c2, if_neg]
      rintro (h | h)
      · exact c2 (a2.mpr h)
      · exact c1 (a1.mpr h)
theorem Tb_put {g : Nat → Int} (h : Tb g) {p q : Nat} {v : Int} (hp : p < 5) (hq : q < 5) (hne : p ≠ q) (h0 : 0 ≤ v) (h4 : v ≤ 40) : Tb (put2 g p q v) := by
  intro i j hi hj
  rw [put2_at g v hp hq hi hj, put2_at g v hp hq hj hi, put2_at g v hp hq hi hi]
  obtain ⟨h1, h2, h3, h5⟩ := h i j hi hj
  have e3 : ¬ ((i = p ∧ i = q) ∨ (i = q ∧ i = p)) := by omega
  rw [if_neg e3]
  by_cases c : (i = p ∧ j = q) ∨ (i = q ∧ j = p)
  · rw [if_pos c, if_pos (by omega)]
    exact ⟨h0, h4, rfl, h5⟩
  · rw [if_neg c, if_neg (by omega)]
    exact ⟨h1, h2, h3, h5⟩
theorem Ag_put {n : Int} {g far : Nat → Int} (h : Ag n g far) (h5 : n ≤ 5) {p q : Nat} {v : Int} (hp : p < 5) (hq : q < 5) : Ag n (put2 g p q v) (put2 far p q v) := by
  intro i j hi hj
  rw [put2_at g v hp hq (by omega) (by omega), put2_at far v hp hq (by omega) (by omega), h i j hi hj]
theorem toN {p : Int} (h : 0 ≤ p) : ∃ k : Nat, p = k := ⟨p.toNat, by omega⟩
theorem st_1 {x : Nat → Int} {X : Nat → Nat → Int} {kx : Nat → Int64} {it : Nat → Nat → Int64} {F : Nat → Int} {B : Nat → Nat → Int} {cl bt : Nat → Int64} (h : Rel x X kx it F B cl bt) (p1 : Int) (g1 : rg p1) (p2 : Int) (g2 : rg p2) (p3 : Int) (g3 : rg p3) : ∃ (r : Int) (o0 : Nat → Int) (o0' : Nat → Int), f_X8_set p1 p2 p3 (x 1) (X 0) = some (r, o0) ∧ f_X9_set p1 p2 p3 (F 0) (B 1) = some (r, o0') ∧ Rel x (up X 0 o0) kx it F (up B 1 o0') cl bt := by
  obtain ⟨⟨⟨e0, h3, h5, tg, tf, ag⟩, hNu, hMp, hSe, hEv, hBo⟩, hC, hI, hSp, hHu, hT, hTa⟩ := h
  rw [e0]
  by_cases c : 0 ≤ p1 ∧ p1 < x 1 ∧ 0 ≤ p2 ∧ p2 < x 1 ∧ p1 ≠ p2
  · obtain ⟨a1, a2, a3, a4, a5⟩ := c
    have c : 0 ≤ p1 ∧ p1 < x 1 ∧ 0 ≤ p2 ∧ p2 < x 1 ∧ p1 ≠ p2 := ⟨a1, a2, a3, a4, a5⟩
    obtain ⟨i, rfl⟩ := toN a1
    obtain ⟨j, rfl⟩ := toN a3
    have gd : X 0 (5 * i + j) = B 1 (5 * i + j) := ag i j a2 a4
    have in3 : f_X9_in p3 0 40 = some (b01 (0 ≤ p3 ∧ p3 ≤ 40)) := in_X9 g3 ⟨by omega, by omega⟩ ⟨by omega, by omega⟩
    by_cases c3 : 0 ≤ p3 ∧ p3 ≤ 40
    · refine ⟨X 0 (5 * i + j), put2 (X 0) i j p3, put2 (B 1) i j p3, ?_, ?_, ?_⟩
      · unfold f_X8_set f_X2_place
        rw [areTwo_X4 g1 g2 h3 h5, b01_t c, gap_N a2 a4 h5, put_X4 a1 a2 a3 a4 a5 h5 h3]
        obtain ⟨z1, z2⟩ := g3
        simp (disch := omega) only [bd1_s, jn, ltI_eq]
        rw [if_neg (by decide), if_neg (by decide), decide_eq_false (by omega), decide_eq_false (by omega)]
        rfl
      · unfold f_X9_set
        rw [areTwo_X9 g1 g2 h3 h5, b01_t c, in3, b01_t c3, d_N (by omega) (by omega), lays_X9 a1 (by omega) a3 (by omega), gd]
        rfl
      · exact ⟨⟨⟨e0, h3, h5, Tb_put tg (by omega) (by omega) (by omega) c3.1 c3.2, Tb_put tf (by omega) (by omega) (by omega) c3.1 c3.2, Ag_put ag h5 (by omega) (by omega)⟩, hNu, hMp, hSe, hEv, hBo⟩, hC, hI, hSp, hHu, hT, hTa⟩
    · refine ⟨-2, X 0, B 1, ?_, ?_, ?_⟩
      · unfold f_X8_set f_X2_place
        rw [areTwo_X4 g1 g2 h3 h5, b01_t c, gap_N a2 a4 h5]
        obtain ⟨z1, z2⟩ := g3
        simp (disch := omega) only [bd1_s, jn, ltI_eq]
        rw [if_neg (by decide), if_neg (by decide)]
        by_cases c4 : p3 < 0
        · rw [decide_eq_true c4]; rfl
        · rw [decide_eq_false c4, decide_eq_true (by omega : (40 : Int) < p3)]; rfl
      · unfold f_X9_set
        rw [areTwo_X9 g1 g2 h3 h5, b01_t c, in3, b01_f c3]
        rfl
      · exact ⟨⟨⟨e0, h3, h5, tg, tf, ag⟩, hNu, hMp, hSe, hEv, hBo⟩, hC, hI, hSp, hHu, hT, hTa⟩
  · refine ⟨-1, X 0, B 1, ?_, ?_, ?_⟩
    · unfold f_X8_set
      rw [areTwo_X4 g1 g2 h3 h5, b01_f c]
      rfl
    · unfold f_X9_set
      rw [areTwo_X9 g1 g2 h3 h5, b01_f c]
      rfl
    · exact ⟨⟨⟨e0, h3, h5, tg, tf, ag⟩, hNu, hMp, hSe, hEv, hBo⟩, hC, hI, hSp, hHu, hT, hTa⟩
