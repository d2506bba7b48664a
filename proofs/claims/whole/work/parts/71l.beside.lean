/-! PURE PART: cells, beside one another -/
def CMp (n : Nat) (g f f' : Nat → Int) (x y : Nat) : Prop := x < n ∧ y < n ∧ TI g f x y ∧ TI g f' x y
theorem CMp_sym {n : Nat} {g f f' : Nat → Int} (h5 : n ≤ 5) (tg : Tb g) {x y : Nat} (h : CMp n g f f' x y) : CMp n g f f' y x := ⟨h.2.1, h.1, TI_sym h5 tg h.1 h.2.1 h.2.2.1, TI_sym h5 tg h.1 h.2.1 h.2.2.2⟩
noncomputable def CNT (n : Nat) (T : Nat → Nat → Prop) : Int := sm (fun x => sm (fun y => ind (T x y)) (x + 1)) n
theorem many_X7 {n M : Nat} {T : Nat → Nat → Prop} (h3 : 3 ≤ n) (h5 : n ≤ 5) (hM : M < 2 ^ 25) (hT : ∀ x y, x < 5 → y < 5 → (bq M (5 * x + y) = 1 ↔ T x y)) (tn : ∀ x y, T x y → x < n ∧ y < n) (sy : ∀ x y, T x y → T y x) : wp (f_X7_manyTwos M) (fun r => r = CNT n T) := by
  unfold f_X7_manyTwos
  rw [show (17593311 : Int) = ((17593311 : Nat) : Int) from rfl, and_nat (by omega) (by omega)]
  have l : M &&& 17593311 ≤ M := Nat.and_le_left
  refine w_b1s (bitCount_nat (by omega)) ?_
  refine w_s ?_
  generalize hm : M &&& 17593311 = m at l
  have bits : ∀ i, bq m i = 1 ↔ bq M i = 1 ∧ bq 17593311 i = 1 := fun i => by rw [← hm, bq_and]
  have one : ∀ i, bq 17593311 i = 1 → bq m i = bq M i := fun i h => by
    have a := bits i
    have b := bq_c m i
    have c := bq_c M i
    omega
  have zero : ∀ i, bq 17593311 i = 0 → bq m i = 0 := fun i h => by
    have a := bits i
    have b := bq_c m i
    omega
  have z5 := zero 5 (by decide)
  have z10 := zero 10 (by decide)
  have z11 := zero 11 (by decide)
  have z15 := zero 15 (by decide)
  have z16 := zero 16 (by decide)
  have z17 := zero 17 (by decide)
  have z20 := zero 20 (by decide)
  have z21 := zero 21 (by decide)
  have z22 := zero 22 (by decide)
  have z23 := zero 23 (by decide)
  have e := dg_e m 25
  rw [Nat.mod_eq_of_lt (by omega)] at e
  simp only [dg] at e
  have em : m = 0 + ls (fun i => bq m i * 2 ^ i) [0, 1, 2, 3, 4, 6, 7, 8, 9, 12, 13, 14, 18, 19, 24] := by
    simp only [ls]
    omega
  have ep := chk_sound (b := bq m) (bq_c m) _ 0 0 chk_all
  rw [← em] at ep
  rw [ep]
  have V : ∀ x y, x < 5 → y < 5 → (bq M (5 * x + y) : Int) = ind (T x y) := by
    intro x y hx hy
    by_cases c : T x y
    · rw [ind_t c, (hT x y hx hy).mpr c]
      rfl
    · have := bq_c M (5 * x + y)
      have c2 : ¬ bq M (5 * x + y) = 1 := fun q => c ((hT x y hx hy).mp q)
      rw [ind_f c]
      omega
  have S : ∀ x y, ind (T x y) = ind (T y x) := fun x y => ind_c ⟨sy x y, sy y x⟩
  have Z : ∀ x y, n ≤ y → ind (T x y) = 0 := fun x y h => ind_f (fun q => by have := tn x y q; omega)
  have o := fun i h => one i h
  have w0 : (bq m 0 : Int) = ind (T 0 0) := by rw [one 0 (by decide)]; exact V 0 0 (by omega) (by omega)
  have w1 : (bq m 1 : Int) = ind (T 0 1) := by rw [one 1 (by decide)]; exact V 0 1 (by omega) (by omega)
  have w2 : (bq m 2 : Int) = ind (T 0 2) := by rw [one 2 (by decide)]; exact V 0 2 (by omega) (by omega)
  have w3 : (bq m 3 : Int) = ind (T 0 3) := by rw [one 3 (by decide)]; exact V 0 3 (by omega) (by omega)
  have w4 : (bq m 4 : Int) = ind (T 0 4) := by rw [one 4 (by decide)]; exact V 0 4 (by omega) (by omega)
  have w6 : (bq m 6 : Int) = ind (T 1 1) := by rw [one 6 (by decide)]; exact V 1 1 (by omega) (by omega)
  have w7 : (bq m 7 : Int) = ind (T 1 2) := by rw [one 7 (by decide)]; exact V 1 2 (by omega) (by omega)
  have w8 : (bq m 8 : Int) = ind (T 1 3) := by rw [one 8 (by decide)]; exact V 1 3 (by omega) (by omega)
  have w9 : (bq m 9 : Int) = ind (T 1 4) := by rw [one 9 (by decide)]; exact V 1 4 (by omega) (by omega)
  have w12 : (bq m 12 : Int) = ind (T 2 2) := by rw [one 12 (by decide)]; exact V 2 2 (by omega) (by omega)
  have w13 : (bq m 13 : Int) = ind (T 2 3) := by rw [one 13 (by decide)]; exact V 2 3 (by omega) (by omega)
  have w14 : (bq m 14 : Int) = ind (T 2 4) := by rw [one 14 (by decide)]; exact V 2 4 (by omega) (by omega)
  have w18 : (bq m 18 : Int) = ind (T 3 3) := by rw [one 18 (by decide)]; exact V 3 3 (by omega) (by omega)
  have w19 : (bq m 19 : Int) = ind (T 3 4) := by rw [one 19 (by decide)]; exact V 3 4 (by omega) (by omega)
  have w24 : (bq m 24 : Int) = ind (T 4 4) := by rw [one 24 (by decide)]; exact V 4 4 (by omega) (by omega)
  have s10 := S 1 0
  have s20 := S 2 0
  have s21 := S 2 1
  have s30 := S 3 0
  have s31 := S 3 1
  have s32 := S 3 2
  have s40 := S 4 0
  have s41 := S 4 1
  have s42 := S 4 2
  have s43 := S 4 3
  have hn : n = 3 ∨ n = 4 ∨ n = 5 := by omega
  unfold CNT
  rcases hn with rfl | rfl | rfl
  · have a1 := Z 0 3 (by omega)
    have a2 := Z 0 4 (by omega)
    have a3 := Z 1 3 (by omega)
    have a4 := Z 1 4 (by omega)
    have a5 := Z 2 3 (by omega)
    have a6 := Z 2 4 (by omega)
    have a7 := Z 3 3 (by omega)
    have a8 := Z 3 4 (by omega)
    have a9 := Z 4 4 (by omega)
    simp only [sm, ls, Int.natCast_add, w0, w1, w2, w3, w4, w6, w7, w8, w9, w12, w13, w14, w18, w19, w24, s10, s20, s21, s30, s31, s32, s40, s41, s42, s43, a1, a2, a3, a4, a5, a6, a7, a8, a9, Int.zero_add, Int.add_zero, Int.natCast_zero]
    ac_rfl
  · have a2 := Z 0 4 (by omega)
    have a4 := Z 1 4 (by omega)
    have a6 := Z 2 4 (by omega)
    have a8 := Z 3 4 (by omega)
    have a9 := Z 4 4 (by omega)
    simp only [sm, ls, Int.natCast_add, w0, w1, w2, w3, w4, w6, w7, w8, w9, w12, w13, w14, w18, w19, w24, s10, s20, s21, s30, s31, s32, s40, s41, s42, s43, a2, a4, a6, a8, a9, Int.zero_add, Int.add_zero, Int.natCast_zero]
    ac_rfl
  · simp only [sm, ls, Int.natCast_add, w0, w1, w2, w3, w4, w6, w7, w8, w9, w12, w13, w14, w18, w19, w24, s10, s20, s21, s30, s31, s32, s40, s41, s42, s43, Int.zero_add, Int.add_zero, Int.natCast_zero]
    ac_rfl
theorem CNT_in {n : Nat} (h3 : 3 ≤ n) (h5 : n ≤ 5) (T : Nat → Nat → Prop) : 0 ≤ CNT n T ∧ CNT n T ≤ 15 := by
  have b : ∀ x y, 0 ≤ ind (T x y) ∧ ind (T x y) ≤ 1 := fun x y => ind_in _
  have b00 := b 0 0
  have b10 := b 1 0
  have b11 := b 1 1
  have b20 := b 2 0
  have b21 := b 2 1
  have b22 := b 2 2
  have b30 := b 3 0
  have b31 := b 3 1
  have b32 := b 3 2
  have b33 := b 3 3
  have b40 := b 4 0
  have b41 := b 4 1
  have b42 := b 4 2
  have b43 := b 4 3
  have b44 := b 4 4
  have hn : n = 3 ∨ n = 4 ∨ n = 5 := by omega
  unfold CNT
  rcases hn with rfl | rfl | rfl <;> simp only [sm] <;> omega
def COV (n : Nat) (T : Nat → Nat → Prop) : Prop := ∀ x, x < n → ∃ y, y < n ∧ T x y
theorem common_X9 {n a b : Nat} {far cor f f' : Nat → Int} (h3 : 3 ≤ n) (h5 : n ≤ 5) (tf : Tb far) (ff : FR n f) (ff' : FR n f') (ha : a < 300) (hb : b < 300) (ea : ∀ x, x < n → cor (5 * a + x) = f x) (eb : ∀ x, x < n → cor (5 * b + x) = f' x) : wp (f_X9_common a b n far cor) (fun r => (COV n (CMp n far f f') → r = 100 + CNT n (CMp n far f f')) ∧ (¬ COV n (CMp n far f f') → r = CNT n (CMp n far f f'))) := by
  unfold f_X9_common
  rw [show (5 * (a : Int)) = ((5 * a : Nat) : Int) by omega, show (5 * (b : Int)) = ((5 * b : Nat) : Int) by omega]
  refine w_q3 (fun k u met v => v = (k : Int) ∧ u = sm (fun x => sm (fun y => ind (CMp n far f f' x y)) (x + 1)) k ∧ ∃ M : Nat, met = M ∧ M < 2 ^ n ∧ ∀ z, bq M z = 1 ↔ ∃ x y, x < k ∧ y ≤ x ∧ CMp n far f f' x y ∧ (z = x ∨ z = y)) n 0 ⟨rfl, rfl, 0, rfl, Nat.pow_pos (by omega), fun z => ⟨fun h => by rw [bq_z] at h; omega, fun ⟨x, y, h, _⟩ => absurd h (Nat.not_lt_zero _)⟩⟩ (by omega) (by omega) (fun k hk u met v hI nx hn => ?_) (fun u met v hI nx => ?_)
  · obtain ⟨rfl, t1, M, rfl, hM, t2⟩ := hI
    refine w_ltT (by omega) ?_
    refine w_q3 (fun m u' met v => v = (m : Int) ∧ u' = u + sm (fun y => ind (CMp n far f f' k y)) m ∧ ∃ M : Nat, met = M ∧ M < 2 ^ n ∧ ∀ z, bq M z = 1 ↔ (∃ x y, x < k ∧ y ≤ x ∧ CMp n far f f' x y ∧ (z = x ∨ z = y)) ∨ ∃ y, y < m ∧ CMp n far f f' k y ∧ (z = k ∨ z = y)) (k + 1) 0 ⟨rfl, by simp only [sm]; omega, M, rfl, hM, fun z => (t2 z).trans ⟨fun h => Or.inl h, fun h => h.resolve_right (fun ⟨y, q, _⟩ => absurd q (Nat.not_lt_zero _))⟩⟩ (by omega) (by omega) (fun m hm u' met v hI ny hy => ?_) (fun u' met v hI ny => ?_)
    · obtain ⟨rfl, u1, M, rfl, hM, u2⟩ := hI
      have ss := sm_s (fun y => ind (CMp n far f f' k y)) m
      have t32 := two5 h5
      refine w_ltF (by omega) ?_
      refine w_b1 (isTight_X9 h5 tf ff ea (by omega) hk (show m < n by omega)) (fun r hr => ?_)
      refine w_j ?_
      have no : ¬ CMp n far f f' k m → wp (ny u' (M : Int) ((m : Int) + 1)) (fun r => (COV n (CMp n far f f') → r = 100 + CNT n (CMp n far f f')) ∧ (¬ COV n (CMp n far f f') → r = CNT n (CMp n far f f'))) := by
        intro q
        refine hy _ _ _ ⟨by omega, by rw [ss, ind_f q]; omega, M, rfl, hM, fun z => (u2 z).trans ⟨?_, ?_⟩⟩
        · rintro (h | ⟨y, h1, h2⟩)
          · exact Or.inl h
          · exact Or.inr ⟨y, by omega, h2⟩
        · rintro (h | ⟨y, h1, h2⟩)
          · exact Or.inl h
          · by_cases e : y = m
            · rw [e] at h2
              exact absurd h2.1 q
            · exact Or.inr ⟨y, by omega, h2⟩
      refine w_bI hr (fun nt _ => no (fun q => nt q.2.2.1)) (fun yt _ => ?_)
      refine w_b1 (isTight_X9 h5 tf ff' eb (by omega) hk (show m < n by omega)) (fun r2 hr2 => ?_)
      refine w_bI hr2 (fun nt _ => no (fun q => nt q.2.2.2)) (fun yt2 _ => ?_)
      have cm : CMp n far f f' k m := ⟨hk, by omega, yt, yt2⟩
      have l1 : 1 <<< k < 2 ^ n := one_lt hk
      have l2 : 1 <<< m < 2 ^ n := one_lt (by omega)
      have l3 := Nat.or_lt_two_pow l1 l2
      have l4 := Nat.or_lt_two_pow hM l3
      refine w_lz ?_
      rw [one_shl (by omega), one_shl (by omega), or_nat (a := 1 <<< k) (by omega) (by omega), or_nat (by omega) (by omega)]
      refine hy _ _ _ ⟨by omega, by rw [ss, ind_t cm]; omega, _, rfl, l4, fun z => ?_⟩
      rw [bq_or, bq_or, bq_one, bq_one, u2 z]
      constructor
      · rintro ((h | ⟨y, h1, h2⟩) | h)
        · exact Or.inl h
        · exact Or.inr ⟨y, by omega, h2⟩
        · exact Or.inr ⟨m, by omega, cm, h⟩
      · rintro (h | ⟨y, h1, h2, h3⟩)
        · exact Or.inl (Or.inl h)
        · by_cases e : y = m
          · rw [e] at h3
            exact Or.inr h3
          · exact Or.inl (Or.inr ⟨y, by omega, h2, h3⟩)
    · obtain ⟨rfl, u1, M, rfl, hM, u2⟩ := hI
      refine w_ltT (by omega) ?_
      refine hn _ _ _ ⟨by omega, by rw [sm_s, ← t1]; exact u1, M, rfl, hM, fun z => (u2 z).trans ⟨?_, ?_⟩⟩
      · rintro (⟨x, y, h1, h2⟩ | ⟨y, h1, h2⟩)
        · exact ⟨x, y, by omega, h2⟩
        · exact ⟨k, y, by omega, by omega, h2⟩
      · rintro ⟨x, y, h1, h2, h3, h4⟩
        by_cases e : x = k
        · subst e
          exact Or.inr ⟨y, by omega, h3, h4⟩
        · exact Or.inl ⟨x, y, by omega, h2, h3, h4⟩
  · obtain ⟨rfl, t1, M, rfl, hM, t2⟩ := hI
    have t32 := two5 h5
    refine w_ltF (by omega) ?_
    refine w_j ?_
    have p1 : 1 ≤ 1 <<< n := by
      rw [Nat.one_shiftLeft]
      exact Nat.one_le_two_pow
    have p2 : 1 <<< n ≤ 32 := by
      rw [Nat.one_shiftLeft]
      exact t32
    have e3 : ((1 <<< n : Nat) : Int) - (1 : Int) = ((1 <<< n - 1 : Nat) : Int) := by omega
    have cov : M = 1 <<< n - 1 ↔ COV n (CMp n far f f') := by
      constructor
      · intro h x hx
        have := (t2 x).mp (by rw [h]; exact (bq_low n x).mpr hx)
        obtain ⟨x', y', h1, h2, h3', h4⟩ := this
        rcases h4 with h4 | h4
        · rw [h4]
          exact ⟨y', h3'.2.1, h3'⟩
        · rw [h4]
          exact ⟨x', h3'.1, CMp_sym h5 tf h3'⟩
      · intro h
        refine bq_ext (fun z => ?_)
        rw [t2, bq_low]
        constructor
        · rintro ⟨x, y, h1, h2, h3', h4⟩
          have := h3'.1
          have := h3'.2.1
          omega
        · intro hz
          obtain ⟨y, y1, y2⟩ := h z hz
          by_cases l : y ≤ z
          · exact ⟨z, y, hz, l, y2, Or.inl rfl⟩
          · exact ⟨y, z, y1, by omega, CMp_sym h5 tf y2, Or.inr rfl⟩
    rw [one_shl (by omega), e3]
    refine w_eq (by omega) (fun c => ?_) (fun c => ?_)
    · have cv := cov.mp (by omega)
      exact w_s ⟨fun _ => by rw [t1]; rfl, fun q => absurd cv q⟩
    · have cv : ¬ COV n (CMp n far f f') := fun q => c (by rw [cov.mpr q])
      exact w_s ⟨fun q => absurd q cv, fun _ => t1⟩
