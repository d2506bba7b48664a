/-! PURE PART: two loops side by side; looked -/
theorem lq1_two {α β : Type} {f : (Int → Option α) → Int → Option α} {g : (Int → Option β) → Int → Option β} (P : Option α → Option β → Prop) (b : Nat) (hs : ∀ k : Nat, k < b → (∃ u v, (∀ nx, f nx (k : Int) = u) ∧ (∀ nx, g nx (k : Int) = v) ∧ P u v) ∨ ((∀ nx, f nx (k : Int) = nx ((k : Int) + 1)) ∧ ∀ nx, g nx (k : Int) = nx ((k : Int) + 1))) (he : ∃ u v, (∀ nx, f nx (b : Int) = u) ∧ (∀ nx, g nx (b : Int) = v) ∧ P u v) : ∀ (N k : Nat), k ≤ b → b - k < N → P (lq1 f N (k : Int)) (lq1 g N (k : Int))
  | 0, _, _, h => absurd h (Nat.not_lt_zero _)
  | N + 1, k, hk, h => by
    show P (f (lq1 f N) k) (g (lq1 g N) k)
    by_cases e : k = b
    · subst e
      obtain ⟨u, v, h1, h2, h3⟩ := he
      rw [h1, h2]
      exact h3
    · rcases hs k (by omega) with ⟨u, v, h1, h2, h3⟩ | ⟨h1, h2⟩
      · rw [h1, h2]
        exact h3
      · rw [h1, h2]
        exact lq1_two P b hs he N (k + 1) (by omega) (by omega)
theorem ix_row {i j : Nat} (hi : i < 5) (hj : j < 5) : (5 * (i : Int) + (j : Int)).toNat = 5 * i + j := by omega
theorem st_28 {x : Nat → Int} {X : Nat → Nat → Int} {kx : Nat → Int64} {it : Nat → Nat → Int64} {F : Nat → Int} {B : Nat → Nat → Int} {cl bt : Nat → Int64} (h : Rel x X kx it F B cl bt) : ∃ (r : Int), f_X8_looked (x 1) (X 0) (x 7) (X 5) = some r ∧ f_X9_looked (F 0) (F 10) (B 1) (B 11) (B 12) (B 13) = some r ∧ Rel x X kx it F B cl bt := by
  obtain ⟨⟨⟨e0, h3, h5, tg, tf, ag⟩, hNu, hMp, hSe, hEv, hBo⟩, hR⟩ := id h
  obtain ⟨b1, b2, b3, b4⟩ := id hBo
  obtain ⟨m, hm⟩ := toN b2
  have key : ∃ r, f_X2_firstWrongInBook (x 1) (X 0) (x 7) (X 5) = some r ∧ f_X9_looked (F 0) (F 10) (B 1) (B 11) (B 12) (B 13) = some r := by
    unfold f_X2_firstWrongInBook f_X9_looked
    rw [e0, b1, hm]
    refine lq1_two (fun u v => ∃ r, u = some r ∧ v = some r) m (fun k hk => ?_) ?_ 300 0 (by omega) (by omega)
    · have e1 : iin (k : Int) 8 = true := iin_t (by omega) (by omega) (by omega)
      obtain ⟨q1, q2, q3, q4, q5, q6, q7, q8, q9⟩ := b4 k (by omega)
      have c0 := cell_X1 (k := k) (j := 0) (n := 24) (h := (m : Int)) (c := X 5) (by omega) (by omega) (by omega) (by omega) (by omega)
      have c1 := cell_X1 (k := k) (j := 1) (n := 24) (h := (m : Int)) (c := X 5) (by omega) (by omega) (by omega) (by omega) (by omega)
      have c2 := cell_X1 (k := k) (j := 2) (n := 24) (h := (m : Int)) (c := X 5) (by omega) (by omega) (by omega) (by omega) (by omega)
      replace c0 : f_X1_cell (k : Int) 0 24 (m : Int) (X 5) = some (B 11 k) := c0.trans (congrArg some q1)
      replace c1 : f_X1_cell (k : Int) 1 24 (m : Int) (X 5) = some (B 12 k) := c1.trans (congrArg some q2)
      replace c2 : f_X1_cell (k : Int) 2 24 (m : Int) (X 5) = some (B 13 k) := c2.trans (congrArg some q3)
      have a4 := areTwo_X4 (p := B 11 k) (q := B 12 k) (n := x 1) ⟨by omega, by omega⟩ ⟨by omega, by omega⟩ h3 h5
      have a9 := areTwo_X9 (p := B 11 k) (q := B 12 k) (n := x 1) ⟨by omega, by omega⟩ ⟨by omega, by omega⟩ h3 h5
      have ek : ix (k : Int) = k := ix_nat (by omega)
      by_cases w : 0 ≤ B 11 k ∧ B 11 k < x 1 ∧ 0 ≤ B 12 k ∧ B 12 k < x 1 ∧ B 11 k ≠ B 12 k
      · rw [b01_t w] at a4 a9
        have g4 := gap_X4 (g := X 0) w.1 w.2.1 w.2.2.1 w.2.2.2.1 h5
        have g9 := d_X9 (g := B 1) w.1 (show B 11 k < 5 by omega) w.2.2.1 (show B 12 k < 5 by omega)
        obtain ⟨i, hi⟩ := toN w.1
        obtain ⟨j, hj⟩ := toN w.2.2.1
        have eg : X 0 (5 * B 11 k + B 12 k).toNat = B 1 (5 * B 11 k + B 12 k).toNat := by
          rw [hi, hj, ix_row (by omega) (by omega)]
          exact ag i j (by omega) (by omega)
        rw [eg] at g4
        by_cases e : eqI (B 1 (5 * B 11 k + B 12 k).toNat) (B 13 k) = true
        · refine Or.inr ⟨fun nx => ?_, fun nx => ?_⟩
          · rw [ltT (a := (k : Int)) (b := (m : Int)) (by omega) (by omega) (by omega) (by omega) (by omega), if_pos rfl, c0, bd1_s, c1, bd1_s, a4, bd1_s]
            simp only [jn]
            rw [if_neg (by decide), g4, bd1_s, c2, bd1_s, if_pos e]
          · rw [ltT (a := (k : Int)) (b := (m : Int)) (by omega) (by omega) (by omega) (by omega) (by omega), if_pos rfl, grd_s e1, grd_s e1, ek, a9, bd1_s]
            simp only [jn]
            rw [if_neg (by decide), grd_s e1, grd_s e1, g9, bd1_s, grd_s e1, if_pos e]
        · refine Or.inl ⟨some (k : Int), some (k : Int), fun nx => ?_, fun nx => ?_, (k : Int), rfl, rfl⟩
          · rw [ltT (a := (k : Int)) (b := (m : Int)) (by omega) (by omega) (by omega) (by omega) (by omega), if_pos rfl, c0, bd1_s, c1, bd1_s, a4, bd1_s]
            simp only [jn]
            rw [if_neg (by decide), g4, bd1_s, c2, bd1_s, if_neg e]
          · rw [ltT (a := (k : Int)) (b := (m : Int)) (by omega) (by omega) (by omega) (by omega) (by omega), if_pos rfl, grd_s e1, grd_s e1, ek, a9, bd1_s]
            simp only [jn]
            rw [if_neg (by decide), grd_s e1, grd_s e1, g9, bd1_s, grd_s e1, if_neg e]
      · rw [b01_f w] at a4 a9
        refine Or.inl ⟨some (k : Int), some (k : Int), fun nx => ?_, fun nx => ?_, (k : Int), rfl, rfl⟩
        · rw [ltT (a := (k : Int)) (b := (m : Int)) (by omega) (by omega) (by omega) (by omega) (by omega), if_pos rfl, c0, bd1_s, c1, bd1_s, a4, bd1_s]
          rfl
        · rw [ltT (a := (k : Int)) (b := (m : Int)) (by omega) (by omega) (by omega) (by omega) (by omega), if_pos rfl, grd_s e1, grd_s e1, ek, a9, bd1_s]
          rfl
    · refine ⟨some (-5), some (-5), fun nx => ?_, fun nx => ?_, -5, rfl, rfl⟩
      · rw [ltF (a := (m : Int)) (b := (m : Int)) (by omega) (by omega) (by omega) (by omega) (by omega)]
        rfl
      · rw [ltF (a := (m : Int)) (b := (m : Int)) (by omega) (by omega) (by omega) (by omega) (by omega)]
        rfl
  obtain ⟨r, k1, k2⟩ := key
  refine ⟨r, ?_, k2, h⟩
  unfold f_X8_looked
  rw [k1]
  rfl
