/-! PURE PART: splits' bits; see, event -/
def pw (n : Int) : Int := if n = 3 then 8 else if n = 4 then 16 else 32
theorem pw_c {n : Int} (h3 : 3 ≤ n) (h5 : n ≤ 5) : (n = 3 ∧ pw n = 8) ∨ (n = 4 ∧ pw n = 16) ∨ (n = 5 ∧ pw n = 32) := by
  have : n = 3 ∨ n = 4 ∨ n = 5 := by omega
  rcases this with rfl | rfl | rfl
  · exact Or.inl ⟨rfl, rfl⟩
  · exact Or.inr (Or.inl ⟨rfl, rfl⟩)
  · exact Or.inr (Or.inr ⟨rfl, rfl⟩)
theorem shl_1 {n : Int} (h3 : 3 ≤ n) (h5 : n ≤ 5) : shlI 1 n = pw n := by
  have : n = 3 ∨ n = 4 ∨ n = 5 := by omega
  rcases this with rfl | rfl | rfl <;> decide +kernel
theorem and1_f : ∀ k : Fin 32, andI (k.val : Int) 1 = ((k.val % 2 : Nat) : Int) := by decide +kernel
theorem rem2_f : ∀ k : Fin 32, remI (k.val : Int) 2 = ((k.val % 2 : Nat) : Int) := by decide +kernel
theorem and_1 {p : Int} (h0 : 0 ≤ p) (h : p < 32) : andI p 1 = p % 2 := by
  obtain ⟨k, rfl⟩ := toN h0
  have : andI (k : Int) 1 = ((k % 2 : Nat) : Int) := and1_f ⟨k, by omega⟩
  rw [this]
  omega
theorem rem_2 {p : Int} (h0 : 0 ≤ p) (h : p < 32) : remI p 2 = p % 2 := by
  obtain ⟨k, rfl⟩ := toN h0
  have : remI (k : Int) 2 = ((k % 2 : Nat) : Int) := rem2_f ⟨k, by omega⟩
  rw [this]
  omega
abbrev isSpl (p n : Int) : Prop := 2 ≤ p ∧ p ≤ pw n - 2 ∧ p % 2 = 0
theorem isSplit_X4 {p n : Int} (hp : rg p) (h3 : 3 ≤ n) (h5 : n ≤ 5) : f_X4_isSplit p n = some (b01 (isSpl p n)) := by
  obtain ⟨g1, g2⟩ := hp
  have c := pw_c h3 h5
  unfold f_X4_isSplit
  rw [shl_1 h3 h5]
  by_cases a : 0 < p
  · by_cases b : p < pw n
    · simp only [jn, ltT a (by omega) (by omega) (by omega) (by omega), ltT b (by omega) (by omega) (by omega) (by omega), and_1 (p := p) (by omega) (by omega)]
      rw [eqI_eq (by omega) (by omega) (by omega) (by omega)]
      by_cases e : p % 2 = 0
      · rw [b01_t (show isSpl p n from ⟨by omega, by omega, e⟩), e]
        rfl
      · rw [b01_f (fun h : isSpl p n => e h.2.2), decide_eq_false e]
        rfl
    · rw [b01_f (fun h : isSpl p n => by omega)]
      simp only [jn, ltT a (by omega) (by omega) (by omega) (by omega), ltF (a := p) (b := pw n) (by omega) (by omega) (by omega) (by omega) (by omega)]
      have q : isB 0 = true := rfl
      by_cases e : eqI (andI p 1) 0 = true
      · rw [if_pos e]
        rfl
      · rw [if_neg e]
        rfl
  · rw [b01_f (fun h : isSpl p n => by omega)]
    simp only [jn, ltF (a := 0) (b := p) (by omega) (by omega) (by omega) (by omega) (by omega)]
    rfl
theorem isSplit_X9 {p n : Int} (hp : rg p) (h3 : 3 ≤ n) (h5 : n ≤ 5) : f_X9_isSplit p n = some (b01 (isSpl p n)) := by
  have c := pw_c h3 h5
  unfold f_X9_isSplit
  rw [shl_1 h3 h5, in_X9 hp ⟨by omega, by omega⟩ ⟨by omega, by omega⟩, bd1_s]
  by_cases a : 2 ≤ p ∧ p ≤ pw n - 2
  · rw [b01_t a, rem_2 (p := p) (by omega) (by omega), eqI_eq (a := p % 2) (by omega) (by omega) (by omega) (by omega)]
    by_cases e : p % 2 = 0
    · rw [b01_t (show isSpl p n from ⟨a.1, a.2, e⟩), e]
      rfl
    · rw [b01_f (fun h : isSpl p n => e h.2.2), decide_eq_false e]
      rfl
  · rw [b01_f a, b01_f (fun h : isSpl p n => a ⟨h.1, h.2.1⟩)]
    rfl
theorem see_tail {h : Int} {c : Nat → Int} {m : Int} {s w : Nat → Int} (H : RSeen h c m s w) (p q : Int) (hp : (2 ≤ p ∧ p ≤ 30) ∧ (0 ≤ q ∧ q ≤ 99)) : ∃ (r o0 : Int) (o1 : Nat → Int) (o0' : Int) (o1' o2' : Nat → Int), bd3 (f_X1_add p q 0 12 4 h c) (fun r hh cc => if eqI r 0 = true then some (-4, hh, cc) else some (hh, hh, cc)) = some (r, o0, o1) ∧ (if eqI m 4 = true then some (-4, m, s, w) else grd (iin m 4) (grd (iin m 4) (lv (m + 1) (fun x => some (x, x, up s (ix m) p, up w (ix m) q))))) = some (r, o0', o1', o2') ∧ RSeen o0 o1 o0' o1' o2' := by
  obtain ⟨b1, b2, b3, b4⟩ := id H
  obtain ⟨k, hk⟩ := toN b2
  by_cases cf : h = 4
  · rw [add_X1f cf, b1, cf]
    exact ⟨-4, 4, c, 4, s, w, rfl, rfl, by rw [b1, cf] at H; exact H⟩
  · have e1 : iin (k : Int) 4 = true := iin_t (by omega) (by omega) (by omega)
    rw [b1, hk, add_X1 (by omega) (by omega) (by omega) (by omega)]
    simp only [grd_s e1, eqI_eq (a := (k : Int)) (b := 4) (by omega) (by omega) (by omega) (by omega), decide_eq_false (show ¬ (k : Int) = 4 by omega), lv, ix_nat (show k < 2147483648 by omega)]
    exact ⟨(k : Int) + 1, (k : Int) + 1, row3 c k p q 0, (k : Int) + 1, up s k p, up w k q, rfl, rfl, RSeen_add H hk (by omega) hp.1 hp.2⟩
theorem ev_tail {h : Int} {c : Nat → Int} {m : Int} {s w : Nat → Int} (H : REv h c m s w) (p q : Int) (hp : (p = 0 ∧ 0 ≤ q ∧ q ≤ 4) ∨ (p = 1 ∧ 0 ≤ q ∧ q ≤ 9) ∨ (p = 2 ∧ q = 0)) : ∃ (r o0 : Int) (o1 : Nat → Int) (o0' : Int) (o1' o2' : Nat → Int), bd3 (f_X1_add p q 0 24 8 h c) (fun r hh cc => if eqI r 0 = true then some (-4, hh, cc) else some (hh, hh, cc)) = some (r, o0, o1) ∧ (if eqI m 8 = true then some (-4, m, s, w) else grd (iin m 8) (grd (iin m 8) (lv (m + 1) (fun x => some (x, x, up s (ix m) p, up w (ix m) q))))) = some (r, o0', o1', o2') ∧ REv o0 o1 o0' o1' o2' := by
  obtain ⟨b1, b2, b3, b4⟩ := id H
  obtain ⟨k, hk⟩ := toN b2
  by_cases cf : h = 8
  · rw [add_X1f cf, b1, cf]
    exact ⟨-4, 8, c, 8, s, w, rfl, rfl, by rw [b1, cf] at H; exact H⟩
  · have e1 : iin (k : Int) 8 = true := iin_t (by omega) (by omega) (by omega)
    rw [b1, hk, add_X1 (by omega) (by omega) (by omega) (by omega)]
    simp only [grd_s e1, eqI_eq (a := (k : Int)) (b := 8) (by omega) (by omega) (by omega) (by omega), decide_eq_false (show ¬ (k : Int) = 8 by omega), lv, ix_nat (show k < 2147483648 by omega)]
    exact ⟨(k : Int) + 1, (k : Int) + 1, row3 c k p q 0, (k : Int) + 1, up s k p, up w k q, rfl, rfl, REv_add H hk (by omega) hp⟩
theorem st_21 {x : Nat → Int} {X : Nat → Nat → Int} {kx : Nat → Int64} {it : Nat → Nat → Int64} {F : Nat → Int} {B : Nat → Nat → Int} {cl bt : Nat → Int64} (h : Rel x X kx it F B cl bt) (p1 : Int) (g1 : rg p1) (p2 : Int) (g2 : rg p2) : ∃ (r : Int) (o0 : Int) (o1 : Nat → Int) (o0' : Int) (o1' : Nat → Int) (o2' : Nat → Int), f_X8_see p1 p2 (x 1) (x 2) (x 3) (X 3) = some (r, o0, o1) ∧ f_X9_see p1 p2 (F 0) (F 4) (B 5) (B 6) = some (r, o0', o1', o2') ∧ Rel (up x 3 o0) (up X 3 o1) kx it (up F 4 o0') (up (up B 5 o1') 6 o2') cl bt := by
  obtain ⟨⟨⟨e0, h3, h5, tg, tf, ag⟩, hNu, hMp, hSe, hEv, hBo⟩, hC, hI, hSp, hHu, hT, hTa⟩ := h
  have c2 := hC.1
  have pc := pw_c h3 h5
  unfold f_X8_see f_X9_see
  rw [e0, c2, isSplit_X4 g1 h3 h5, isSplit_X9 g1 h3 h5, in_X9 g2 ⟨by omega, by omega⟩ ⟨by omega, by omega⟩]
  have q0 : eqI p1 (-1) = decide (p1 = -1) := eqI_eq g1.1 g1.2 (by omega) (by omega)
  rw [q0]
  by_cases c : p1 = -1
  · rw [decide_eq_true c]
    exact ⟨0, 0, X 3, 0, B 5, B 6, rfl, rfl, ⟨⟨e0, h3, h5, tg, tf, ag⟩, hNu, hMp, ⟨rfl, (show (0:Int) ≤ 0 by omega), (show (0:Int) ≤ 4 by omega), fun j hj => absurd (show (j:Int) < 0 from hj) (by omega)⟩, hEv, hBo⟩, hC, hI, hSp, hHu, hT, hTa⟩
  · rw [decide_eq_false c, if_neg (by decide), if_neg (by decide)]
    by_cases a : isSpl p1 (x 1)
    · rw [b01_t a, bd1_s, bd1_s, if_neg (by decide), if_neg (by decide)]
      by_cases b : 0 ≤ p2 ∧ p2 ≤ 99
      · rw [b01_t b, bd1_s, if_neg (by decide)]
        simp only [jn, ltF (a := p2) (b := 0) (by omega) (by omega) (by omega) (by omega) (by omega), ltF (a := 99) (b := p2) (by omega) (by omega) (by omega) (by omega) (by omega)]
        obtain ⟨r, o0, o1, o0', o1', o2', u1, u2, u3⟩ := see_tail hSe p1 p2 ⟨⟨a.1, by omega⟩, b⟩
        exact ⟨r, o0, o1, o0', o1', o2', u1, u2, ⟨⟨e0, h3, h5, tg, tf, ag⟩, hNu, hMp, u3, hEv, hBo⟩, hC, hI, hSp, hHu, hT, hTa⟩
      · rw [b01_f b]
        refine ⟨-2, x 3, X 3, F 4, B 5, B 6, ?_, rfl, ⟨⟨e0, h3, h5, tg, tf, ag⟩, hNu, hMp, hSe, hEv, hBo⟩, hC, hI, hSp, hHu, hT, hTa⟩
        by_cases c4 : p2 < 0
        · simp only [jn, ltT (a := p2) (b := 0) c4 g2.1 g2.2 (by omega) (by omega)]
          rfl
        · simp only [jn, ltF (a := p2) (b := 0) (by omega) g2.1 g2.2 (by omega) (by omega), ltT (a := 99) (b := p2) (by omega) (by omega) (by omega) g2.1 g2.2]
          rfl
    · rw [b01_f a]
      exact ⟨-1, x 3, X 3, F 4, B 5, B 6, rfl, rfl, ⟨⟨e0, h3, h5, tg, tf, ag⟩, hNu, hMp, hSe, hEv, hBo⟩, hC, hI, hSp, hHu, hT, hTa⟩
theorem st_25 {x : Nat → Int} {X : Nat → Nat → Int} {kx : Nat → Int64} {it : Nat → Nat → Int64} {F : Nat → Int} {B : Nat → Nat → Int} {cl bt : Nat → Int64} (h : Rel x X kx it F B cl bt) (p1 : Int) (g1 : rg p1) (p2 : Int) (g2 : rg p2) : ∃ (r : Int) (o0 : Int) (o1 : Nat → Int) (o0' : Int) (o1' : Nat → Int) (o2' : Nat → Int), f_X8_event p1 p2 (x 1) (x 4) (x 5) (X 4) = some (r, o0, o1) ∧ f_X9_event p1 p2 (F 0) (F 7) (B 8) (B 9) = some (r, o0', o1', o2') ∧ Rel (up x 5 o0) (up X 4 o1) kx it (up F 7 o0') (up (up B 8 o1') 9 o2') cl bt := by
  obtain ⟨⟨⟨e0, h3, h5, tg, tf, ag⟩, hNu, hMp, hSe, hEv, hBo⟩, hC, hI, hSp, hHu, hT, hTa⟩ := h
  have c2 := hC.2.1
  unfold f_X8_event f_X9_event
  rw [e0, c2, has_X4 g2 h3 h5, isPoint_X9 g2 h3 h5, in_X9 g1 ⟨by omega, by omega⟩ ⟨by omega, by omega⟩, in_X9 g2 ⟨by omega, by omega⟩ ⟨by omega, by omega⟩]
  have q0 : eqI p1 (-1) = decide (p1 = -1) := eqI_eq g1.1 g1.2 (by omega) (by omega)
  have same : ∀ r : Int, Rel (up x 5 (x 5)) (up X 4 (X 4)) kx it (up F 7 (F 7)) (up (up B 8 (B 8)) 9 (B 9)) cl bt := fun _ => ⟨⟨⟨e0, h3, h5, tg, tf, ag⟩, hNu, hMp, hSe, hEv, hBo⟩, hC, hI, hSp, hHu, hT, hTa⟩
  rw [q0]
  by_cases c : p1 = -1
  · rw [decide_eq_true c]
    exact ⟨0, 0, X 4, 0, B 8, B 9, rfl, rfl, ⟨⟨e0, h3, h5, tg, tf, ag⟩, hNu, hMp, hSe, ⟨rfl, (show (0:Int) ≤ 0 by omega), (show (0:Int) ≤ 8 by omega), fun j hj => absurd (show (j:Int) < 0 from hj) (by omega)⟩, hBo⟩, hC, hI, hSp, hHu, hT, hTa⟩
  · rw [decide_eq_false c, if_neg (by decide), if_neg (by decide)]
    by_cases a : 0 ≤ p1 ∧ p1 ≤ 2
    · have a3 : p1 = 0 ∨ p1 = 1 ∨ p1 = 2 := by omega
      rcases a3 with rfl | rfl | rfl
      · by_cases b : 0 ≤ p2 ∧ p2 < x 1
        · rw [b01_t b]
          obtain ⟨r, o0, o1, o0', o1', o2', u1, u2, u3⟩ := ev_tail hEv 0 p2 (Or.inl ⟨rfl, b.1, by omega⟩)
          exact ⟨r, o0, o1, o0', o1', o2', u1, u2, ⟨⟨e0, h3, h5, tg, tf, ag⟩, hNu, hMp, hSe, u3, hBo⟩, hC, hI, hSp, hHu, hT, hTa⟩
        · rw [b01_f b]
          exact ⟨-1, x 5, X 4, F 7, B 8, B 9, rfl, rfl, same 0⟩
      · by_cases b : 0 ≤ p2 ∧ p2 ≤ 9
        · rw [b01_t b, ltF (a := p2) (b := 0) (by omega) (by omega) (by omega) (by omega) (by omega), ltF (a := 9) (b := p2) (by omega) (by omega) (by omega) (by omega) (by omega)]
          obtain ⟨r, o0, o1, o0', o1', o2', u1, u2, u3⟩ := ev_tail hEv 1 p2 (Or.inr (Or.inl ⟨rfl, b⟩))
          exact ⟨r, o0, o1, o0', o1', o2', u1, u2, ⟨⟨e0, h3, h5, tg, tf, ag⟩, hNu, hMp, hSe, u3, hBo⟩, hC, hI, hSp, hHu, hT, hTa⟩
        · rw [b01_f b]
          refine ⟨-2, x 5, X 4, F 7, B 8, B 9, ?_, rfl, same 0⟩
          by_cases c4 : p2 < 0
          · rw [ltT (a := p2) (b := 0) c4 g2.1 g2.2 (by omega) (by omega)]
            rfl
          · rw [ltF (a := p2) (b := 0) (by omega) g2.1 g2.2 (by omega) (by omega), ltT (a := 9) (b := p2) (by omega) (by omega) (by omega) g2.1 g2.2]
            rfl
      · rw [eqI_eq (a := p2) (b := 0) g2.1 g2.2 (by omega) (by omega)]
        by_cases b : p2 = 0
        · rw [decide_eq_true b]
          obtain ⟨r, o0, o1, o0', o1', o2', u1, u2, u3⟩ := ev_tail hEv 2 p2 (Or.inr (Or.inr ⟨rfl, b⟩))
          exact ⟨r, o0, o1, o0', o1', o2', u1, u2, ⟨⟨e0, h3, h5, tg, tf, ag⟩, hNu, hMp, hSe, u3, hBo⟩, hC, hI, hSp, hHu, hT, hTa⟩
        · rw [decide_eq_false b]
          exact ⟨-2, x 5, X 4, F 7, B 8, B 9, rfl, rfl, same 0⟩
    · rw [b01_f a]
      refine ⟨-1, x 5, X 4, F 7, B 8, B 9, ?_, rfl, same 0⟩
      by_cases c4 : p1 < 0
      · simp only [jn, ltT (a := p1) (b := 0) c4 g1.1 g1.2 (by omega) (by omega)]
        rfl
      · simp only [jn, ltF (a := p1) (b := 0) (by omega) g1.1 g1.2 (by omega) (by omega), ltT (a := 2) (b := p1) (by omega) (by omega) (by omega) g1.1 g1.2]
        rfl
