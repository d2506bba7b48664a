theorem ltF {a b : Int} (h : b ≤ a) (a1 : -2147483648 ≤ a) (a2 : a < 2147483648) (b1 : -2147483648 ≤ b) (b2 : b < 2147483648) : ltI a b = false := by
  rw [ltI_eq a1 a2 b1 b2]
  exact decide_eq_false (by omega)
theorem ltT {a b : Int} (h : a < b) (a1 : -2147483648 ≤ a) (a2 : a < 2147483648) (b1 : -2147483648 ≤ b) (b2 : b < 2147483648) : ltI a b = true := by
  rw [ltI_eq a1 a2 b1 b2]
  exact decide_eq_true h
theorem RTape_set {so le so' le' : Nat → Int} {it it2 : Nat → Nat → Int64} {cl cl2 : Nat → Int64} (h : RTape so le it so' le' cl) {t : Nat} {s n : Int} (ht : t < 6) (hs : -1 ≤ s ∧ s ≤ 4) (hn : 0 ≤ n ∧ n ≤ 60) (h1 : ∀ k : Nat, (k : Int) < n → it2 t k = cl2 (60 * t + k)) (h2 : ∀ u, u ≠ t → it2 u = it u) (h3 : ∀ u k : Nat, u < 6 → u ≠ t → k < 60 → cl2 (60 * u + k) = cl (60 * u + k)) : RTape (up so t s) (up le t n) it2 (up so' t s) (up le' t n) cl2 := by
  intro u hu
  by_cases q : u = t
  · subst q
    rw [up_eq, up_eq, up_eq, up_eq]
    exact ⟨rfl, hs.1, hs.2, rfl, hn.1, hn.2, h1⟩
  · rw [up_ne _ _ q, up_ne _ _ q, up_ne _ _ q, up_ne _ _ q, h2 u q]
    obtain ⟨a1, a2, a3, a4, a5, a6, a7⟩ := h u hu
    exact ⟨a1, a2, a3, a4, a5, a6, fun k hk => by rw [a7 k hk, h3 u k hu q (by omega)]⟩
theorem st_33 {x : Nat → Int} {X : Nat → Nat → Int} {kx : Nat → Int64} {it : Nat → Nat → Int64} {F : Nat → Int} {B : Nat → Nat → Int} {cl bt : Nat → Int64} (h : Rel x X kx it F B cl bt) (p1 : Int) (g1 : rg p1) (p2 : Int) (g2 : rg p2) (p3 : Int) (g3 : rg p3) : ∃ (r : Int) (o0 : Nat → Nat → Int64) (o1 : Nat → Int) (o2 : Nat → Int) (o0' : Nat → Int) (o1' : Nat → Int) (o2' : Nat → Int64), f_X8_tape p1 p2 p3 it (X 21) (X 22) = some (r, o0, o1, o2) ∧ f_X9_tape p1 p2 p3 (B 16) (B 17) cl = some (r, o0', o1', o2') ∧ Rel x (up (up X 21 o1) 22 o2) kx o0 F (up (up B 16 o0') 17 o1') o2' bt := by
  obtain ⟨hS, hC, hI, hSp, hHu, hT, hTa⟩ := h
  unfold f_X8_tape f_X9_tape
  rw [has_X5 g1, isTape_X9 g1, in_X9 g2 ⟨by omega, by omega⟩ ⟨by omega, by omega⟩]
  by_cases c : 0 ≤ p1 ∧ p1 < 6
  · rw [b01_t c]
    obtain ⟨t, rfl⟩ := toN c.1
    have ht : t < 6 := by omega
    have e1 : iin (t : Int) 6 = true := iin_t (by omega) (by omega) (by omega)
    have e2 : ix (t : Int) = t := ix_nat (by omega)
    obtain ⟨z1, z2⟩ := g2
    obtain ⟨z3, z4⟩ := g3
    by_cases cn : p2 = -1
    · subst cn
      have k1 := lay_X5 (t := t) (p2 := -1) (p3 := 0) (it := it) (so := X 21) (le := X 22) ht
      have k2 := tape_loop (t := t) (n := 0) ht (by omega) (by omega) (fun c => some ((1 : Int), (up (B 16) (ix (t : Int)) (-1)), (up (B 17) (ix (t : Int)) 0), c)) cl (B 17)
      refine ⟨1, zer it t 60, up (X 21) t (-1), up (X 22) t 0, up (B 16) t (-1), up (B 17) t 0, zc cl t 0, ?_, ?_, hS, hC, hI, hSp, hHu, hT, ?_⟩
      · rw [bd1_s, if_neg (by decide), if_pos (by decide), k1]
        rfl
      · simp only [grd_s e1, e2] at k2
        rw [b01_t (by omega), bd1_s, if_neg (by decide), bd1_s]
        simp only [jn, grd_s e1, e2]
        rw [if_neg (by decide), if_pos (by decide), if_pos (by decide), if_pos (by decide)]
        exact k2
      · exact RTape_set hTa ht (by omega) (by omega) (fun k hk => by omega) (fun u hu => zer_ne it hu 60) (fun u k _ hu hk => zc_ne cl (by omega))
    · by_cases c2 : 0 ≤ p2 ∧ p2 ≤ 4
      · rw [b01_t (by omega)]
        by_cases c3 : 60 < p3
        · refine ⟨-2, it, X 21, X 22, B 16, B 17, cl, ?_, ?_, hS, hC, hI, hSp, hHu, hT, hTa⟩
          · simp (disch := omega) only [bd1_s, jn, ltI_eq, eqI_eq]
            rw [if_neg (by decide), decide_eq_false cn, decide_eq_false (by omega), decide_eq_false (by omega), decide_eq_true c3]
            rfl
          · simp only [bd1_s, jn, ltF (a := p2) (b := 0) (by omega) (by omega) (by omega) (by omega) (by omega), ltT (a := 60) (b := p3) (by omega) (by omega) (by omega) (by omega) (by omega)]
            rw [if_neg (by decide), if_neg (by decide)]
            rfl
        · by_cases c4 : p3 < 0
          · refine ⟨-14, it, X 21, X 22, B 16, B 17, cl, ?_, ?_, hS, hC, hI, hSp, hHu, hT, hTa⟩
            · simp (disch := omega) only [bd1_s, jn, ltI_eq, eqI_eq]
              rw [if_neg (by decide), decide_eq_false cn, decide_eq_false (by omega), decide_eq_false (by omega), decide_eq_false c3, decide_eq_true c4]
              rfl
            · simp only [bd1_s, jn, ltF (a := p2) (b := 0) (by omega) (by omega) (by omega) (by omega) (by omega), ltF (a := 60) (b := p3) (by omega) (by omega) (by omega) (by omega) (by omega), ltT (a := p3) (b := 0) (by omega) (by omega) (by omega) (by omega) (by omega)]
              rw [if_neg (by decide), if_neg (by decide)]
              rfl
          · have k1 := lay_X5 (t := t) (p2 := p2) (p3 := p3) (it := it) (so := X 21) (le := X 22) ht
            have k2 := tape_loop (t := t) (n := p3) ht (by omega) (by omega) (fun c => some ((1 : Int), (up (B 16) (ix (t : Int)) p2), (up (B 17) (ix (t : Int)) p3), c)) cl (B 17)
            refine ⟨1, zer it t 60, up (X 21) t p2, up (X 22) t p3, up (B 16) t p2, up (B 17) t p3, zc cl t p3.toNat, ?_, ?_, hS, hC, hI, hSp, hHu, hT, ?_⟩
            · rw [k1]
              simp (disch := omega) only [bd1_s, jn, ltI_eq, eqI_eq, bd4_s]
              rw [if_neg (by decide), decide_eq_false cn, decide_eq_false (by omega), decide_eq_false (by omega), decide_eq_false c3, decide_eq_false c4]
              rfl
            · simp only [grd_s e1, e2] at k2
              simp only [bd1_s, jn, ltF (a := p2) (b := 0) (by omega) (by omega) (by omega) (by omega) (by omega), ltF (a := 60) (b := p3) (by omega) (by omega) (by omega) (by omega) (by omega), ltF (a := p3) (b := 0) (by omega) (by omega) (by omega) (by omega) (by omega), grd_s e1, e2]
              rw [if_neg (by decide), if_neg (by decide), if_neg (by decide), if_neg (by decide), if_neg (by decide), if_neg (by decide)]
              exact k2
            · exact RTape_set hTa ht (by omega) (by omega) (fun k hk => by rw [zer_at it t (by omega), zc_at cl t (by omega)]) (fun u hu => zer_ne it hu 60) (fun u k _ hu hk => zc_ne cl (by omega))
      · rw [b01_f (by omega)]
        refine ⟨-2, it, X 21, X 22, B 16, B 17, cl, ?_, rfl, hS, hC, hI, hSp, hHu, hT, hTa⟩
        simp (disch := omega) only [bd1_s, jn, ltI_eq, eqI_eq]
        rw [if_neg (by decide), decide_eq_false cn]
        by_cases c4 : p2 < 0
        · rw [decide_eq_true c4]; rfl
        · rw [decide_eq_false c4, decide_eq_true (by omega : (4 : Int) < p2)]; rfl
  · rw [b01_f c]
    exact ⟨-1, it, X 21, X 22, B 16, B 17, cl, rfl, rfl, hS, hC, hI, hSp, hHu, hT, hTa⟩
theorem lowest_eq {s : Int} (h0 : 0 ≤ s) (h4 : s ≤ 4) (v : Int64) : ∃ r, f_X5_lowestBits s v = some r ∧ f_X9_lowest s v = some r := by
  have hs : s = 0 ∨ s = 1 ∨ s = 2 ∨ s = 3 ∨ s = 4 := by omega
  rcases hs with rfl | rfl | rfl | rfl | rfl
  · exact ⟨_, rfl, rfl⟩
  · exact ⟨_, rfl, rfl⟩
  · exact ⟨_, rfl, rfl⟩
  · exact ⟨_, rfl, rfl⟩
  · unfold f_X5_lowestBits f_X9_lowest
    rw [if_neg (by decide), if_neg (by decide), if_neg (by decide), if_neg (by decide), if_pos (by decide), if_neg (by decide), if_neg (by decide), if_neg (by decide), if_neg (by decide)]
    simp only [jn]
    by_cases q : eqI (lcmI v (0 : Int64)) 0 = true
    · rw [if_pos q]
      exact ⟨_, rfl, rfl⟩
    · rw [if_neg q]
      exact ⟨_, rfl, rfl⟩
theorem st_34 {x : Nat → Int} {X : Nat → Nat → Int} {kx : Nat → Int64} {it : Nat → Nat → Int64} {F : Nat → Int} {B : Nat → Nat → Int} {cl bt : Nat → Int64} (h : Rel x X kx it F B cl bt) (p1 : Int) (g1 : rg p1) (p2 : Int) (g2 : rg p2) (v : Int64) : ∃ (r : Int) (o0 : Nat → Nat → Int64) (o0' : Nat → Int64), f_X8_item p1 p2 v it (X 21) (X 22) = some (r, o0) ∧ f_X9_item p1 p2 v (B 16) (B 17) cl = some (r, o0') ∧ Rel x X kx o0 F B o0' bt := by
  obtain ⟨hS, hC, hI, hSp, hHu, hT, hTa⟩ := h
  unfold f_X8_item f_X9_item
  rw [has_X5 g1, isTape_X9 g1]
  by_cases c : 0 ≤ p1 ∧ p1 < 6
  · rw [b01_t c]
    obtain ⟨t, rfl⟩ := toN c.1
    have ht : t < 6 := by omega
    have e1 : iin (t : Int) 6 = true := iin_t (by omega) (by omega) (by omega)
    have e2 : ix (t : Int) = t := ix_nat (by omega)
    obtain ⟨a1, a2, a3, a4, a5, a6, a7⟩ := hTa t ht
    rw [holdsN_X5 ht a2 a3]
    by_cases cn : X 21 t = -1
    · refine ⟨-11, it, cl, ?_, ?_, hS, hC, hI, hSp, hHu, hT, hTa⟩
      · rw [b01_t cn]; rfl
      · simp only [bd1_s, grd_s e1, e2]
        rw [← a1, cn]
        rfl
    · rw [b01_f cn]
      unfold f_X5_change
      rw [hasItem_X5 ht g2 a2 a3 a5 a6, in_X9 g2 ⟨by omega, by omega⟩ ⟨by rw [e2]; omega, by rw [e2]; omega⟩]
      by_cases c2 : 0 ≤ p2 ∧ p2 < X 22 t
      · obtain ⟨m, rfl⟩ := toN c2.1
        obtain ⟨r, l1, l2⟩ := lowest_eq (s := X 21 t) (by omega) a3 v
        have e3 : iin (m : Int) 60 = true := iin_t (by omega) (by omega) (by omega)
        have e4 : iin (60 * (t : Int) + m) 360 = true := iin_t (by omega) (by omega) (by omega)
        have e5 : ix (60 * (t : Int) + m) = 60 * t + m := by rw [ix_eq (by omega) (by omega)]; omega
        have e6 : ix (m : Int) = m := ix_nat (by omega)
        refine ⟨1, up it t (up (it t) m r), up cl (60 * t + m) r, ?_, ?_, hS, hC, hI, hSp, hHu, hT, ?_⟩
        · rw [b01_t ⟨cn, c2⟩]
          simp only [bd1_s, grd_s e1, grd_s e3, e2, e6, l1]
          rfl
        · rw [e2, b01_t (by omega)]
          simp (disch := omega) only [bd1_s, grd_s e1, grd_s e4, e2, e5, ltI_eq]
          rw [← a1, decide_eq_false (by omega : ¬ X 21 t < 0), l2]
          rfl
        · intro u hu
          by_cases q : u = t
          · subst q
            refine ⟨a1, a2, a3, a4, a5, a6, fun k hk => ?_⟩
            rw [up_eq]
            by_cases q2 : k = m
            · rw [q2, up_eq, up_eq]
            · rw [up_ne _ _ q2, up_ne _ _ (by omega)]
              exact a7 k hk
          · obtain ⟨b1, b2, b3, b4, b5, b6, b7⟩ := hTa u hu
            refine ⟨b1, b2, b3, b4, b5, b6, fun k hk => ?_⟩
            rw [up_ne _ _ q, up_ne _ _ (by omega)]
            exact b7 k hk
      · refine ⟨-13, it, cl, ?_, ?_, hS, hC, hI, hSp, hHu, hT, hTa⟩
        · rw [b01_f (fun z => c2 z.2)]
          rfl
        · rw [e2, b01_f (by omega)]
          simp (disch := omega) only [bd1_s, grd_s e1, e2, ltI_eq]
          rw [← a1, decide_eq_false (by omega : ¬ X 21 t < 0)]
          rfl
  · rw [b01_f c]
    exact ⟨-1, it, cl, rfl, rfl, hS, hC, hI, hSp, hHu, hT, hTa⟩
theorem st_35 {x : Nat → Int} {X : Nat → Nat → Int} {kx : Nat → Int64} {it : Nat → Nat → Int64} {F : Nat → Int} {B : Nat → Nat → Int} {cl bt : Nat → Int64} (h : Rel x X kx it F B cl bt) (p1 : Int) (g1 : rg p1) (p2 : Int) (g2 : rg p2) : ∃ (r : Int64), f_X8_peek p1 p2 it (X 21) (X 22) = some r ∧ f_X9_peek p1 p2 (B 16) (B 17) cl = some r ∧ Rel x X kx it F B cl bt := by
  have hR := h
  obtain ⟨hS, hC, hI, hSp, hHu, hT, hTa⟩ := h
  unfold f_X8_peek f_X9_peek
  rw [isTape_X9 g1]
  by_cases c : 0 ≤ p1 ∧ p1 < 6
  · rw [b01_t c]
    obtain ⟨t, rfl⟩ := toN c.1
    have ht : t < 6 := by omega
    have e1 : iin (t : Int) 6 = true := iin_t (by omega) (by omega) (by omega)
    have e2 : ix (t : Int) = t := ix_nat (by omega)
    obtain ⟨a1, a2, a3, a4, a5, a6, a7⟩ := hTa t ht
    rw [hasItem_X5 ht g2 a2 a3 a5 a6, in_X9 g2 ⟨by omega, by omega⟩ ⟨by rw [e2]; omega, by rw [e2]; omega⟩]
    by_cases cn : X 21 t = -1
    · refine ⟨(-9223372036854775808 : Int64), ?_, ?_, hR⟩
      · rw [b01_f (fun z => z.1 cn)]; rfl
      · simp only [bd1_s, jn, grd_s e1, e2]
        rw [← a1, cn]
        rfl
    · by_cases c2 : 0 ≤ p2 ∧ p2 < X 22 t
      · obtain ⟨m, rfl⟩ := toN c2.1
        have e3 : iin (m : Int) 60 = true := iin_t (by omega) (by omega) (by omega)
        have e4 : iin (60 * (t : Int) + m) 360 = true := iin_t (by omega) (by omega) (by omega)
        have e5 : ix (60 * (t : Int) + m) = 60 * t + m := by rw [ix_eq (by omega) (by omega)]; omega
        have e6 : ix (m : Int) = m := ix_nat (by omega)
        refine ⟨it t m, ?_, ?_, hR⟩
        · rw [b01_t ⟨cn, c2⟩]
          simp only [bd1_s, jn, grd_s e1, grd_s e3, e2, e6]
          rfl
        · rw [e2, b01_t (by omega)]
          simp (disch := omega) only [bd1_s, jn, grd_s e1, grd_s e4, e2, e5, ltI_eq]
          rw [← a1, decide_eq_false (by omega : ¬ X 21 t < 0), a7 m (by omega)]
          rfl
      · refine ⟨(-9223372036854775808 : Int64), ?_, ?_, hR⟩
        · rw [b01_f (fun z => c2 z.2)]
          rfl
        · rw [e2, b01_f (by omega)]
          simp (disch := omega) only [bd1_s, jn, grd_s e1, e2, ltI_eq]
          rw [← a1, decide_eq_false (by omega : ¬ X 21 t < 0)]
          rfl
  · rw [b01_f c, hasItem_X5n g1 c]
    exact ⟨_, rfl, rfl, hR⟩
