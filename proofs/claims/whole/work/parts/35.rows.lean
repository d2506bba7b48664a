/-! PURE PART: rows of SEEN, EVENTS, the BOOK -/
def row3 (c : Nat → Int) (k : Nat) (p q r : Int) : Nat → Int := up (up (up c (3 * k) p) (3 * k + 1) q) (3 * k + 2) r
theorem row3_at (c : Nat → Int) (k : Nat) (p q r : Int) : row3 c k p q r (3 * k) = p ∧ row3 c k p q r (3 * k + 1) = q ∧ row3 c k p q r (3 * k + 2) = r := by
  unfold row3
  refine ⟨?_, ?_, ?_⟩
  · rw [up_ne _ _ (by omega), up_ne _ _ (by omega), up_eq]
  · rw [up_ne _ _ (by omega), up_eq]
  · rw [up_eq]
theorem row3_ne (c : Nat → Int) {k j : Nat} (p q r : Int) (h : j < 3 * k ∨ 3 * k + 2 < j) : row3 c k p q r j = c j := by
  unfold row3
  rw [up_ne _ _ (by omega), up_ne _ _ (by omega), up_ne _ _ (by omega)]
theorem add_X1 {k n : Nat} {m p q r : Int} {c : Nat → Int} (hk : (k : Int) < m) (hm : m ≤ 8) (hn : 3 * m ≤ n) (hn2 : n < 100) : f_X1_add p q r n m k c = some (1, (k : Int) + 1, row3 c k p q r) := by
  unfold f_X1_add
  have e1 : iin (3 * (k : Int)) n = true := iin_t (by omega) (by omega) (by omega)
  have e2 : iin (3 * (k : Int) + 1) n = true := iin_t (by omega) (by omega) (by omega)
  have e3 : iin (3 * (k : Int) + 2) n = true := iin_t (by omega) (by omega) (by omega)
  have i1 : ix (3 * (k : Int)) = 3 * k := by rw [ix_eq (by omega) (by omega)]; omega
  have i2 : ix (3 * (k : Int) + 1) = 3 * k + 1 := by rw [ix_eq (by omega) (by omega)]; omega
  have i3 : ix (3 * (k : Int) + 2) = 3 * k + 2 := by rw [ix_eq (by omega) (by omega)]; omega
  rw [ltT (by omega) (by omega) (by omega) (by omega) (by omega), if_pos rfl, grd_s e1, grd_s e2, grd_s e3, lv, i1, i2, i3]
  rfl
theorem add_X1f {n : Nat} {h m p q r : Int} {c : Nat → Int} (hk : h = m) : f_X1_add p q r n m h c = some (0, h, c) := by
  unfold f_X1_add
  rw [if_neg]
  rw [hk]
  unfold ltI
  simp
theorem cell_X1 {k j n : Nat} {h : Int} {c : Nat → Int} (hk : (k : Int) < h) (hh : h ≤ 8) (hj : j < 3) (hn : 3 * h ≤ n) (hn2 : n < 100) : f_X1_cell k j n h c = some (c (3 * k + j)) := by
  unfold f_X1_cell
  have e1 : iin (3 * (k : Int) + j) n = true := iin_t (by omega) (by omega) (by omega)
  have i1 : ix (3 * (k : Int) + j) = 3 * k + j := by rw [ix_eq (by omega) (by omega)]; omega
  simp only [jn, ltF (a := (k : Int)) (b := 0) (by omega) (by omega) (by omega) (by omega) (by omega), ltT (a := (k : Int)) (b := h) (by omega) (by omega) (by omega) (by omega) (by omega), ltF (a := (j : Int)) (b := 0) (by omega) (by omega) (by omega) (by omega) (by omega), ltT (a := (j : Int)) (b := 3) (by omega) (by omega) (by omega) (by omega) (by omega), grd_s e1, i1]
  rfl
theorem RSeen_add {h : Int} {c : Nat → Int} {m : Int} {s w : Nat → Int} (H : RSeen h c m s w) {k : Nat} (hk : h = k) (h4 : k < 4) {p q r : Int} (hp : 2 ≤ p ∧ p ≤ 30) (hq : 0 ≤ q ∧ q ≤ 99) : RSeen ((k : Int) + 1) (row3 c k p q r) ((k : Int) + 1) (up s k p) (up w k q) := by
  obtain ⟨h1, h2, h3, h5⟩ := H
  refine ⟨rfl, by omega, by omega, fun j hj => ?_⟩
  by_cases e : j = k
  · subst e
    obtain ⟨a1, a2, a3⟩ := row3_at c j p q r
    rw [a1, a2, up_eq, up_eq]
    exact ⟨rfl, rfl, hp.1, hp.2, hq.1, hq.2⟩
  · rw [row3_ne c p q r (by omega), row3_ne c p q r (by omega), up_ne _ _ e, up_ne _ _ e]
    exact h5 j (by omega)
theorem REv_add {h : Int} {c : Nat → Int} {m : Int} {s w : Nat → Int} (H : REv h c m s w) {k : Nat} (hk : h = k) (h4 : k < 8) {p q r : Int} (hp : (p = 0 ∧ 0 ≤ q ∧ q ≤ 4) ∨ (p = 1 ∧ 0 ≤ q ∧ q ≤ 9) ∨ (p = 2 ∧ q = 0)) : REv ((k : Int) + 1) (row3 c k p q r) ((k : Int) + 1) (up s k p) (up w k q) := by
  obtain ⟨h1, h2, h3, h5⟩ := H
  refine ⟨rfl, by omega, by omega, fun j hj => ?_⟩
  by_cases e : j = k
  · subst e
    obtain ⟨a1, a2, a3⟩ := row3_at c j p q r
    rw [a1, a2, up_eq, up_eq]
    exact ⟨rfl, rfl, hp⟩
  · rw [row3_ne c p q r (by omega), row3_ne c p q r (by omega), up_ne _ _ e, up_ne _ _ e]
    exact h5 j (by omega)
theorem RBook_add {h : Int} {c : Nat → Int} {m : Int} {a b d : Nat → Int} (H : RBook h c m a b d) {k : Nat} (hk : h = k) (h4 : k < 8) {p q r : Int} (hp : 0 ≤ p ∧ p ≤ 4) (hq : 0 ≤ q ∧ q ≤ 4) (hr : 0 ≤ r ∧ r ≤ 40) : RBook ((k : Int) + 1) (row3 c k p q r) ((k : Int) + 1) (up a k p) (up b k q) (up d k r) := by
  obtain ⟨h1, h2, h3, h5⟩ := H
  refine ⟨rfl, by omega, by omega, fun j hj => ?_⟩
  by_cases e : j = k
  · subst e
    obtain ⟨a1, a2, a3⟩ := row3_at c j p q r
    rw [a1, a2, a3, up_eq, up_eq, up_eq]
    exact ⟨rfl, rfl, rfl, hp.1, hp.2, hq.1, hq.2, hr.1, hr.2⟩
  · rw [row3_ne c p q r (by omega), row3_ne c p q r (by omega), row3_ne c p q r (by omega), up_ne _ _ e, up_ne _ _ e, up_ne _ _ e]
    exact h5 j (by omega)
theorem st_27 {x : Nat → Int} {X : Nat → Nat → Int} {kx : Nat → Int64} {it : Nat → Nat → Int64} {F : Nat → Int} {B : Nat → Nat → Int} {cl bt : Nat → Int64} (h : Rel x X kx it F B cl bt) (p1 : Int) (g1 : rg p1) (p2 : Int) (g2 : rg p2) (p3 : Int) (g3 : rg p3) : ∃ (r : Int) (o0 : Int) (o1 : Nat → Int) (o0' : Int) (o1' : Nat → Int) (o2' : Nat → Int) (o3' : Nat → Int), f_X8_book p1 p2 p3 (x 1) (x 6) (x 7) (X 5) = some (r, o0, o1) ∧ f_X9_book p1 p2 p3 (F 0) (F 10) (B 11) (B 12) (B 13) = some (r, o0', o1', o2', o3') ∧ Rel (up x 7 o0) (up X 5 o1) kx it (up F 10 o0') (up (up (up B 11 o1') 12 o2') 13 o3') cl bt := by
  obtain ⟨⟨⟨e0, h3, h5, tg, tf, ag⟩, hNu, hMp, hSe, hEv, hBo⟩, hC, hI, hSp, hHu, hT, hTa⟩ := h
  obtain ⟨b1, b2, b3, b4⟩ := id hBo
  obtain ⟨k, hk⟩ := toN b2
  have c6 := hC.2.2.1
  unfold f_X8_book f_X9_book
  rw [e0, c6, b1, areTwo_X4 g1 g2 h3 h5, areTwo_X9 g1 g2 h3 h5, in_X9 g3 ⟨by omega, by omega⟩ ⟨by omega, by omega⟩]
  have q0 : eqI p1 (-1) = decide (p1 = -1) := eqI_eq g1.1 g1.2 (by omega) (by omega)
  rw [q0]
  by_cases c : p1 = -1
  · rw [decide_eq_true c]
    exact ⟨0, 0, X 5, 0, B 11, B 12, B 13, rfl, rfl, ⟨⟨e0, h3, h5, tg, tf, ag⟩, hNu, hMp, hSe, hEv, rfl, (show (0:Int) ≤ 0 by omega), (show (0:Int) ≤ 8 by omega), fun j hj => absurd (show (j:Int) < 0 from hj) (by omega)⟩, hC, hI, hSp, hHu, hT, hTa⟩
  · rw [decide_eq_false c, if_neg (by decide), if_neg (by decide)]
    by_cases c2 : 0 ≤ p1 ∧ p1 < x 1 ∧ 0 ≤ p2 ∧ p2 < x 1 ∧ p1 ≠ p2
    · rw [b01_t c2, bd1_s, bd1_s, if_neg (by decide), if_neg (by decide)]
      by_cases c3 : 0 ≤ p3 ∧ p3 ≤ 40
      · rw [b01_t c3, bd1_s, if_neg (by decide)]
        simp only [jn, ltF (a := p3) (b := 0) (by omega) (by omega) (by omega) (by omega) (by omega), ltF (a := 40) (b := p3) (by omega) (by omega) (by omega) (by omega) (by omega)]
        by_cases cf : x 7 = 8
        · rw [add_X1f cf, cf]
          exact ⟨-4, 8, X 5, 8, B 11, B 12, B 13, rfl, rfl, ⟨⟨e0, h3, h5, tg, tf, ag⟩, hNu, hMp, hSe, hEv, by rw [cf, b1, cf] at hBo; exact hBo⟩, hC, hI, hSp, hHu, hT, hTa⟩
        · have e1 : iin (k : Int) 8 = true := iin_t (by omega) (by omega) (by omega)
          rw [hk, add_X1 (by omega) (by omega) (by omega) (by omega)]
          simp only [grd_s e1, eqI_eq (a := (k : Int)) (b := 8) (by omega) (by omega) (by omega) (by omega), decide_eq_false (show ¬ (k : Int) = 8 by omega), lv, ix_nat (show k < 2147483648 by omega)]
          exact ⟨(k : Int) + 1, (k : Int) + 1, row3 (X 5) k p1 p2 p3, (k : Int) + 1, up (B 11) k p1, up (B 12) k p2, up (B 13) k p3, rfl, rfl, ⟨⟨e0, h3, h5, tg, tf, ag⟩, hNu, hMp, hSe, hEv, RBook_add hBo hk (by omega) (by omega) (by omega) c3⟩, hC, hI, hSp, hHu, hT, hTa⟩
      · rw [b01_f c3]
        refine ⟨-2, x 7, X 5, x 7, B 11, B 12, B 13, ?_, rfl, ⟨⟨e0, h3, h5, tg, tf, ag⟩, hNu, hMp, hSe, hEv, by rw [b1] at hBo; exact hBo⟩, hC, hI, hSp, hHu, hT, hTa⟩
        by_cases c4 : p3 < 0
        · simp only [jn, ltT (a := p3) (b := 0) c4 g3.1 g3.2 (by omega) (by omega)]
          rfl
        · simp only [jn, ltF (a := p3) (b := 0) (by omega) g3.1 g3.2 (by omega) (by omega), ltT (a := 40) (b := p3) (by omega) (by omega) (by omega) g3.1 g3.2]
          rfl
    · rw [b01_f c2]
      exact ⟨-1, x 7, X 5, x 7, B 11, B 12, B 13, rfl, rfl, ⟨⟨e0, h3, h5, tg, tf, ag⟩, hNu, hMp, hSe, hEv, by rw [b1] at hBo; exact hBo⟩, hC, hI, hSp, hHu, hT, hTa⟩
