/-! PURE PART: the start -/
theorem z_Tb : Tb (fun _ => 0) := fun i j _ _ => ⟨Int.le_refl 0, (by decide : (0 : Int) ≤ 40), rfl, rfl⟩
theorem st_init : ∃ (o0_14_9_9 : Int) (o1_14_9_9 : Nat → Int) (r69_9 : Int) (o0_69_9 : Int) (o1_69_9 : Nat → Int) (o2_69_9 : Nat → Int) (o3_69_9 : Nat → Int) (o0_14_9_20 : Int) (o1_14_9_20 : Nat → Int) (r69_20 : Int) (o0_69_20 : Int) (o1_69_20 : Nat → Int) (o2_69_20 : Nat → Int) (o3_69_20 : Nat → Int) (o0_14_36 : Int) (o1_14_36 : Nat → Int) (o0_14_9_47 : Int) (o1_14_9_47 : Nat → Int) (o0_14_9_58 : Int) (o1_14_9_58 : Nat → Int), f_X4_spread 4 0 (fun _ => 0) = some (o0_14_9_9, o1_14_9_9) ∧ f_X2_begin 4 o0_14_9_9 o1_14_9_9 (fun _ => 0) (fun _ => 0) = some (r69_9, o0_69_9, o1_69_9, o2_69_9, o3_69_9) ∧ f_X4_spread 4 0 (fun _ => 0) = some (o0_14_9_20, o1_14_9_20) ∧ f_X2_begin 4 o0_14_9_20 o1_14_9_20 (fun _ => 0) (fun _ => 0) = some (r69_20, o0_69_20, o1_69_20, o2_69_20, o3_69_20) ∧ f_X4_spread 4 0 (fun _ => 0) = some (o0_14_36, o1_14_36) ∧ f_X4_spread 4 0 (fun _ => 0) = some (o0_14_9_47, o1_14_9_47) ∧ f_X4_spread 4 0 (fun _ => 0) = some (o0_14_9_58, o1_14_9_58) ∧ Rel (x0I o0_14_9_9 o1_14_9_9 r69_9 o0_69_9 o1_69_9 o2_69_9 o3_69_9 o0_14_9_20 o1_14_9_20 r69_20 o0_69_20 o1_69_20 o2_69_20 o3_69_20 o0_14_36 o1_14_36 o0_14_9_47 o1_14_9_47 o0_14_9_58 o1_14_9_58) (X0I o0_14_9_9 o1_14_9_9 r69_9 o0_69_9 o1_69_9 o2_69_9 o3_69_9 o0_14_9_20 o1_14_9_20 r69_20 o0_69_20 o1_69_20 o2_69_20 o3_69_20 o0_14_36 o1_14_36 o0_14_9_47 o1_14_9_47 o0_14_9_58 o1_14_9_58) (fun _ => 0) (fun _ _ => 0) F0I B0I (fun _ => 0) (fun _ => 0) := by
  obtain ⟨g0, s0, t0, q0⟩ := spread_X4 (p := 4) (s := 0) (g := fun _ => 0) (by omega) (by omega) z_Tb
  obtain ⟨g1, n1, i1, b0, ⟨t1, q1⟩, r1⟩ := begin_X2 (p := 4) (s := 4) (g := g0) (nu := fun _ => 0) (im := fun _ => 0) (by omega) (by omega) t0
  refine ⟨4, g0, 1, 4, g1, n1, i1, 4, g0, 1, 4, g1, n1, i1, 4, g0, 4, g0, 4, g0, s0, b0, s0, b0, s0, s0, s0, ?_⟩
  have tB : ∀ i, i < 5 → ∀ j, j < 5 → 0 ≤ B0I 1 (5 * i + j) ∧ B0I 1 (5 * i + j) ≤ 40 ∧ B0I 1 (5 * i + j) = B0I 1 (5 * j + i) ∧ B0I 1 (5 * i + i) = 0 := by decide +kernel
  have tD : ∀ i, i < 5 → ∀ j, j < i → B0I 1 (5 * i + j) = 2 := by decide +kernel
  have tI : ∀ i, i < 5 → B0I 3 i = (i : Int) := by decide +kernel
  have tT : ∀ i, i < 6 → (up (up (up (up (up (up (fun _ => (0 : Int)) (ix 0) (-1)) (ix 1) (-1)) (ix 2) (-1)) (ix 3) (-1)) (ix 4) (-1)) (ix 5) (-1)) i = -1 := by decide +kernel
  have tU : ∀ i, i < 6 → B0I 16 i = -1 := by decide +kernel
  refine ⟨⟨⟨rfl, (by decide : (3 : Int) ≤ 4), (by decide : (4 : Int) ≤ 5), t1, fun i j hi hj => tB i hi j hj, ?_⟩, ?_, ?_, ?_, ?_, ?_⟩, ⟨rfl, rfl, rfl, rfl, rfl, rfl⟩, ?_, ⟨Or.inl rfl, fun h => absurd (show (0 : Int) = 1 from h) (by decide)⟩, ⟨Or.inl rfl, fun h => absurd (show (0 : Int) = 1 from h) (by decide)⟩, ?_, ?_⟩
  · intro i j hi hj
    have hi' : (i : Int) < 4 := hi
    have hj' : (j : Int) < 4 := hj
    show g1 (5 * i + j) = B0I 1 (5 * i + j)
    have a1 := t1 i j (by omega) (by omega)
    have a2 := tB i (by omega) j (by omega)
    by_cases c : i = j
    · subst c
      rw [a1.2.2.2, a2.2.2.2]
    by_cases d : i < j
    · rw [q1 i j d (by omega), a2.2.2.1, tD j (by omega) i d]
    · rw [a1.2.2.1, q1 j i (by omega) (by omega), tD i (by omega) j (by omega)]
  · intro k hk
    show n1 k = 0 ∧ 0 ≤ n1 k ∧ n1 k ≤ 160
    have := (r1 k hk).1
    omega
  · intro k hk
    show i1 k = B0I 3 k ∧ 0 ≤ i1 k ∧ i1 k < 5 ∧ ((k : Int) < 4 → i1 k < 4)
    have a1 := (r1 k hk).2
    have a2 := tI k hk
    omega
  · exact ⟨rfl, Int.le_refl 0, (by decide : (0 : Int) ≤ 4), fun k hk => absurd (show (k : Int) < 0 from hk) (by omega)⟩
  · exact ⟨rfl, Int.le_refl 0, (by decide : (0 : Int) ≤ 8), fun k hk => absurd (show (k : Int) < 0 from hk) (by omega)⟩
  · exact ⟨rfl, Int.le_refl 0, (by decide : (0 : Int) ≤ 8), fun k hk => absurd (show (k : Int) < 0 from hk) (by omega)⟩
  · exact ⟨Or.inl rfl, rfl, fun h => absurd (show (0 : Int) = 1 from h) (by decide)⟩
  · exact ⟨rfl, Int.le_refl 0, (by decide : (0 : Int) ≤ 100), fun k hk => absurd (show (k : Int) < 0 from hk) (by omega)⟩
  · intro t ht
    have a1 := tT t ht
    have a2 := tU t ht
    exact ⟨a1.trans a2.symm, by rw [show (X0I 4 g0 1 4 g1 n1 i1 4 g0 1 4 g1 n1 i1 4 g0 4 g0 4 g0 21 t) = -1 from a1]; decide, by rw [show (X0I 4 g0 1 4 g1 n1 i1 4 g0 1 4 g1 n1 i1 4 g0 4 g0 4 g0 21 t) = -1 from a1]; decide, rfl, Int.le_refl 0, (by decide : (0 : Int) ≤ 60), fun k hk => absurd (show (k : Int) < 0 from hk) (by omega)⟩
