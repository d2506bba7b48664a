/-! PURE PART: one table, one row of cells becomes another -/
theorem become_X1 {n : Nat} {m s h : Int} {c d : Nat → Int} (h0 : 0 ≤ h) (hm : h ≤ m) (m8 : m ≤ 8) (hn : 3 * m ≤ n) (hn2 : n < 100) : ∃ o, f_X1_become n n m s c h d = some (h, o) ∧ ∀ j i : Nat, (j : Int) < h → i < 3 → o (3 * j + i) = d (3 * j + i) := by
  obtain ⟨b, rfl⟩ := toN h0
  unfold f_X1_become
  refine lq3_P (I := fun k (v hh : Int) (cc : Nat → Int) => v = (k : Int) ∧ hh = (k : Int) ∧ ∀ j i : Nat, j < k → i < 3 → cc (3 * j + i) = d (3 * j + i)) (P := fun u => ∃ o : Nat → Int, u = some ((b : Int), o) ∧ ∀ j i : Nat, (j : Int) < b → i < 3 → o (3 * j + i) = d (3 * j + i)) b (fun k hk a1 a2 a3 hI nx hx => ?_) (fun a1 a2 a3 hI nx => ?_) 300 0 0 0 c ⟨rfl, rfl, fun j i hj => absurd hj (Nat.not_lt_zero _)⟩ (by omega) (by omega)
  · obtain ⟨rfl, rfl, t⟩ := hI
    have c0 : f_X1_cell (k : Int) 0 n b d = some (d (3 * k + 0)) := cell_X1 (j := 0) (by omega) (by omega) (by omega) (by omega) (by omega)
    have c1 : f_X1_cell (k : Int) 1 n b d = some (d (3 * k + 1)) := cell_X1 (j := 1) (by omega) (by omega) (by omega) (by omega) (by omega)
    have c2 : f_X1_cell (k : Int) 2 n b d = some (d (3 * k + 2)) := cell_X1 (j := 2) (by omega) (by omega) (by omega) (by omega) (by omega)
    rw [ltT (a := (k : Int)) (b := (b : Int)) (by omega) (by omega) (by omega) (by omega) (by omega), if_pos rfl, c0, bd1_s, c1, bd1_s, c2, bd1_s, add_X1 (by omega) m8 hn hn2, bd3_s]
    refine hx _ _ _ ⟨by omega, by omega, fun j i hj hi => ?_⟩
    by_cases e : j = k
    · subst e
      obtain ⟨q1, q2, q3⟩ := row3_at a3 j (d (3 * j + 0)) (d (3 * j + 1)) (d (3 * j + 2))
      have hi3 : i = 0 ∨ i = 1 ∨ i = 2 := by omega
      rcases hi3 with rfl | rfl | rfl
      · exact q1
      · exact q2
      · exact q3
    · rw [row3_ne _ _ _ _ (by omega)]
      exact t j i (by omega) hi
  · obtain ⟨rfl, rfl, t⟩ := hI
    rw [ltF (a := (b : Int)) (b := (b : Int)) (by omega) (by omega) (by omega) (by omega) (by omega), if_neg (by decide)]
    exact ⟨a3, rfl, fun j i hj hi => t j i (by omega) hi⟩
theorem cpy_at (f h : Nat → Int) (n k : Nat) : va_cpy f h 0 0 n k = if k < n then f k else h k := by
  unfold va_cpy
  simp
theorem become_X4 {s m : Int} {g d : Nat → Int} : ∃ o, f_X4_become s g m d = some (m, o) ∧ ∀ k : Nat, k < 25 → o k = d k := by
  have e : cpyOk 0 0 25 25 25 = true := by decide +kernel
  unfold f_X4_become
  rw [grd_s e]
  refine ⟨_, rfl, fun k hk => ?_⟩
  show va_cpy d g 0 0 25 k = d k
  rw [cpy_at, if_pos hk]
