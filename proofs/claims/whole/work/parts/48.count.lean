/-! PURE PART: sums over all twos; how many are otherwise, usual -/
theorem sm_s (f : Nat → Int) (n : Nat) : sm f (n + 1) = sm f n + f n := rfl
theorem sm_c {f f' : Nat → Int} : ∀ n : Nat, (∀ i, i < n → f i = f' i) → sm f n = sm f' n
  | 0, _ => rfl
  | n + 1, h => by rw [sm_s, sm_s, sm_c n (fun i hi => h i (by omega)), h n (by omega)]
theorem sm_0 {f : Nat → Int} : ∀ n : Nat, (∀ i, i < n → 0 ≤ f i) → 0 ≤ sm f n
  | 0, _ => Int.le_refl _
  | n + 1, h => by
    rw [sm_s]
    have := sm_0 n (fun i hi => h i (by omega))
    have := h n (by omega)
    omega
def sf (f : Nat → Int) (a b : Nat) : Int := sm (fun t => f (a + t)) (b - a)
theorem sf_s (f : Nat → Int) {a b : Nat} (h : a ≤ b) : sf f a (b + 1) = sf f a b + f b := by
  unfold sf
  rw [show b + 1 - a = (b - a) + 1 by omega, sm_s]
  congr 1
  exact congrArg f (by omega)
theorem sf_e (f : Nat → Int) (a : Nat) : sf f a a = 0 := by
  unfold sf
  rw [show a - a = 0 by omega]
  rfl
/-- over all twos: the class's order, the reference's -/
def S4 (P : Nat → Nat → Int) (n : Nat) : Int := sm (fun i => sf (fun j => P i j) (i + 1) n) n
def S9 (P : Nat → Nat → Int) (n : Nat) : Int := sm (fun i => sm (fun j => P i j) i) n
theorem S_same {P Q : Nat → Nat → Int} {n : Nat} (h3 : 3 ≤ n) (h5 : n ≤ 5) (e : ∀ i j, i < j → j < n → P i j = Q j i) : S4 P n = S9 Q n := by
  have hn : n = 3 ∨ n = 4 ∨ n = 5 := by omega
  rcases hn with rfl | rfl | rfl
  · have e1 := e 0 1 (by omega) (by omega)
    have e2 := e 0 2 (by omega) (by omega)
    have e3 := e 1 2 (by omega) (by omega)
    simp [S4, S9, sf, sm]
    omega
  · have e1 := e 0 1 (by omega) (by omega)
    have e2 := e 0 2 (by omega) (by omega)
    have e3 := e 1 2 (by omega) (by omega)
    have e4 := e 0 3 (by omega) (by omega)
    have e5 := e 1 3 (by omega) (by omega)
    have e6 := e 2 3 (by omega) (by omega)
    simp [S4, S9, sf, sm]
    omega
  · have e1 := e 0 1 (by omega) (by omega)
    have e2 := e 0 2 (by omega) (by omega)
    have e3 := e 1 2 (by omega) (by omega)
    have e4 := e 0 3 (by omega) (by omega)
    have e5 := e 1 3 (by omega) (by omega)
    have e6 := e 2 3 (by omega) (by omega)
    have e7 := e 0 4 (by omega) (by omega)
    have e8 := e 1 4 (by omega) (by omega)
    have e9 := e 2 4 (by omega) (by omega)
    have e10 := e 3 4 (by omega) (by omega)
    simp [S4, S9, sf, sm]
    omega
def ne1 (a b : Int) : Int := if a = b then 0 else 1
def eq1 (a b : Int) : Int := if a = b then 1 else 0
theorem ne1_t {a b : Int} (h : a = b) : ne1 a b = 0 := if_pos h
theorem ne1_f {a b : Int} (h : a ≠ b) : ne1 a b = 1 := if_neg h
theorem eq1_t {a b : Int} (h : a = b) : eq1 a b = 1 := if_pos h
theorem eq1_f {a b : Int} (h : a ≠ b) : eq1 a b = 0 := if_neg h
theorem ne1_in (a b : Int) : 0 ≤ ne1 a b ∧ ne1 a b ≤ 1 := by
  unfold ne1
  split <;> omega
theorem eq1_in (a b : Int) : 0 ≤ eq1 a b ∧ eq1 a b ≤ 1 := by
  unfold eq1
  split <;> omega
theorem otherwise_X4 {n : Nat} {g g' : Nat → Int} (h5 : n ≤ 5) (tg : Tb g) (tg' : Tb g') : wp (f_X4_otherwiseThan n g n g') (fun r => r = S4 (fun i j => ne1 (g (5 * i + j)) (g' (5 * i + j))) n ∧ 0 ≤ r ∧ r ≤ 25) := by
  unfold f_X4_otherwiseThan
  refine w_q2 (fun k u v => v = (k : Int) ∧ u = sm (fun i => sf (fun j => ne1 (g (5 * i + j)) (g' (5 * i + j))) (i + 1) n) k ∧ 0 ≤ u ∧ u ≤ 5 * k) n 0 ⟨rfl, rfl, by omega, by omega⟩ (by omega) (by omega) (fun k hk u v hI nx hn => ?_) (fun u v hI nx => ?_)
  · obtain ⟨rfl, t1, t2, t3⟩ := hI
    refine w_ltT (by omega) ?_
    refine w_l (fun x hx => ?_)
    refine w_q2 (fun m u' v => v = (m : Int) ∧ k < m ∧ u' = u + sf (fun j => ne1 (g (5 * k + j)) (g' (5 * k + j))) (k + 1) m ∧ 0 ≤ u' ∧ u' ≤ 5 * k + m) n (k + 1) ⟨by omega, by omega, by rw [sf_e]; omega, by omega, by omega⟩ (by omega) (by omega) (fun m hm u' v hI ny hy => ?_) (fun u' v hI ny => ?_)
    · obtain ⟨rfl, km, q1, q2, q3⟩ := hI
      have s := sf_s (fun j => ne1 (g (5 * k + j)) (g' (5 * k + j))) (a := k + 1) (b := m) (by omega)
      refine w_ltT (by omega) ?_
      refine w_gap tg (by omega) (fun r1 e1 l1 m1 => ?_)
      refine w_gap tg' (by omega) (fun r2 e2 l2 m2 => ?_)
      subst e1 e2
      repeat' (first | with_reducible refine w_l (fun _ _ => ?_) | with_reducible refine w_j ?_ | with_reducible refine w_gB ?_ | with_reducible refine w_g0 ?_ | with_reducible refine w_g1 ?_ | with_reducible refine w_gi (by omega) ?_ | with_reducible refine w_ltT (by omega) ?_ | with_reducible refine w_ltF (by omega) ?_ | with_reducible refine w_lt (by omega) (fun _ => ?_) (fun _ => ?_) | with_reducible refine w_eqT (by omega) ?_ | with_reducible refine w_eqF (by omega) ?_ | with_reducible refine w_eq (by omega) (fun _ => ?_) (fun _ => ?_) | with_reducible refine w_gap (by assumption) (by omega) (fun _ _ _ _ => ?_) | with_reducible refine w_d (by assumption) (by omega) (fun _ _ _ _ => ?_) | with_reducible refine w_bI (by assumption) (fun _ _ => ?_) (fun _ _ => ?_) | with_reducible refine w_gI (by assumption) ?_ | with_reducible refine w_gn (by omega) ?_)
      · next c _ _ =>
        have := ne1_t c
        exact hy _ _ ⟨by omega, by omega, by omega, by omega, by omega⟩
      · next c _ _ =>
        have := ne1_f c
        exact hy _ _ ⟨by omega, by omega, by omega, by omega, by omega⟩
    · obtain ⟨rfl, km, q1, q2, q3⟩ := hI
      refine w_ltF (by omega) ?_
      exact hn _ _ ⟨by omega, by rw [sm_s]; omega, by omega, by omega⟩
  · obtain ⟨rfl, t1, t2, t3⟩ := hI
    refine w_ltF (by omega) ?_
    exact w_s ⟨t1, t2, by omega⟩
theorem manyOf_X4 {n : Nat} {p : Int} {g : Nat → Int} (h5 : n ≤ 5) (tg : Tb g) (hp : 0 ≤ p ∧ p ≤ 40) : wp (f_X4_manyOf p n g) (fun r => r = S4 (fun i j => eq1 (g (5 * i + j)) p) n ∧ 0 ≤ r ∧ r ≤ 25) := by
  unfold f_X4_manyOf
  refine w_q2 (fun k u v => v = (k : Int) ∧ u = sm (fun i => sf (fun j => eq1 (g (5 * i + j)) p) (i + 1) n) k ∧ 0 ≤ u ∧ u ≤ 5 * k) n 0 ⟨rfl, rfl, by omega, by omega⟩ (by omega) (by omega) (fun k hk u v hI nx hn => ?_) (fun u v hI nx => ?_)
  · obtain ⟨rfl, t1, t2, t3⟩ := hI
    refine w_ltT (by omega) ?_
    refine w_l (fun x hx => ?_)
    refine w_q2 (fun m u' v => v = (m : Int) ∧ k < m ∧ u' = u + sf (fun j => eq1 (g (5 * k + j)) p) (k + 1) m ∧ 0 ≤ u' ∧ u' ≤ 5 * k + m) n (k + 1) ⟨by omega, by omega, by rw [sf_e]; omega, by omega, by omega⟩ (by omega) (by omega) (fun m hm u' v hI ny hy => ?_) (fun u' v hI ny => ?_)
    · obtain ⟨rfl, km, q1, q2, q3⟩ := hI
      have s := sf_s (fun j => eq1 (g (5 * k + j)) p) (a := k + 1) (b := m) (by omega)
      refine w_ltT (by omega) ?_
      refine w_gap tg (by omega) (fun r1 e1 l1 m1 => ?_)
      subst e1
      repeat' (first | with_reducible refine w_l (fun _ _ => ?_) | with_reducible refine w_j ?_ | with_reducible refine w_gB ?_ | with_reducible refine w_g0 ?_ | with_reducible refine w_g1 ?_ | with_reducible refine w_gi (by omega) ?_ | with_reducible refine w_ltT (by omega) ?_ | with_reducible refine w_ltF (by omega) ?_ | with_reducible refine w_lt (by omega) (fun _ => ?_) (fun _ => ?_) | with_reducible refine w_eqT (by omega) ?_ | with_reducible refine w_eqF (by omega) ?_ | with_reducible refine w_eq (by omega) (fun _ => ?_) (fun _ => ?_) | with_reducible refine w_gap (by assumption) (by omega) (fun _ _ _ _ => ?_) | with_reducible refine w_d (by assumption) (by omega) (fun _ _ _ _ => ?_) | with_reducible refine w_bI (by assumption) (fun _ _ => ?_) (fun _ _ => ?_) | with_reducible refine w_gI (by assumption) ?_ | with_reducible refine w_gn (by omega) ?_)
      · next c _ _ =>
        have := eq1_t c
        exact hy _ _ ⟨by omega, by omega, by omega, by omega, by omega⟩
      · next c _ _ =>
        have := eq1_f c
        exact hy _ _ ⟨by omega, by omega, by omega, by omega, by omega⟩
    · obtain ⟨rfl, km, q1, q2, q3⟩ := hI
      refine w_ltF (by omega) ?_
      exact hn _ _ ⟨by omega, by rw [sm_s]; omega, by omega, by omega⟩
  · obtain ⟨rfl, t1, t2, t3⟩ := hI
    refine w_ltF (by omega) ?_
    exact w_s ⟨t1, t2, by omega⟩
theorem often_X9 {n : Nat} {p : Int} {g : Nat → Int} (h5 : n ≤ 5) (tg : Tb g) (hp : 0 ≤ p ∧ p ≤ 40) : wp (f_X9_often p n g) (fun r => r = S9 (fun i j => eq1 (g (5 * i + j)) p) n ∧ 0 ≤ r ∧ r ≤ 25) := by
  unfold f_X9_often
  refine w_q2 (fun k u v => v = (k : Int) ∧ u = sm (fun i => sm (fun j => eq1 (g (5 * i + j)) p) i) k ∧ 0 ≤ u ∧ u ≤ 5 * k) n 0 ⟨rfl, rfl, by omega, by omega⟩ (by omega) (by omega) (fun k hk u v hI nx hn => ?_) (fun u v hI nx => ?_)
  · obtain ⟨rfl, t1, t2, t3⟩ := hI
    refine w_ltT (by omega) ?_
    refine w_q2 (fun m u' v => v = (m : Int) ∧ u' = u + sm (fun j => eq1 (g (5 * k + j)) p) m ∧ 0 ≤ u' ∧ u' ≤ 5 * k + m) k 0 ⟨rfl, by simp only [sm]; omega, by omega, by omega⟩ (by omega) (by omega) (fun m hm u' v hI ny hy => ?_) (fun u' v hI ny => ?_)
    · obtain ⟨rfl, q1, q2, q3⟩ := hI
      have s := sm_s (fun j => eq1 (g (5 * k + j)) p) m
      refine w_ltT (by omega) ?_
      refine w_d tg (by omega) (fun r1 e1 l1 m1 => ?_)
      subst e1
      repeat' (first | with_reducible refine w_l (fun _ _ => ?_) | with_reducible refine w_j ?_ | with_reducible refine w_gB ?_ | with_reducible refine w_g0 ?_ | with_reducible refine w_g1 ?_ | with_reducible refine w_gi (by omega) ?_ | with_reducible refine w_ltT (by omega) ?_ | with_reducible refine w_ltF (by omega) ?_ | with_reducible refine w_lt (by omega) (fun _ => ?_) (fun _ => ?_) | with_reducible refine w_eqT (by omega) ?_ | with_reducible refine w_eqF (by omega) ?_ | with_reducible refine w_eq (by omega) (fun _ => ?_) (fun _ => ?_) | with_reducible refine w_gap (by assumption) (by omega) (fun _ _ _ _ => ?_) | with_reducible refine w_d (by assumption) (by omega) (fun _ _ _ _ => ?_) | with_reducible refine w_bI (by assumption) (fun _ _ => ?_) (fun _ _ => ?_) | with_reducible refine w_gI (by assumption) ?_ | with_reducible refine w_gn (by omega) ?_)
      · next c _ _ =>
        have := eq1_t c
        exact hy _ _ ⟨by omega, by omega, by omega, by omega⟩
      · next c _ _ =>
        have := eq1_f c
        exact hy _ _ ⟨by omega, by omega, by omega, by omega⟩
    · obtain ⟨rfl, q1, q2, q3⟩ := hI
      refine w_ltF (by omega) ?_
      exact hn _ _ ⟨by omega, by rw [sm_s]; omega, by omega, by omega⟩
  · obtain ⟨rfl, t1, t2, t3⟩ := hI
    refine w_ltF (by omega) ?_
    exact w_s ⟨t1, t2, by omega⟩
/-- what most have, among 0 .. v -/
def us (c : Nat → Int) : Nat → Nat
  | 0 => 0
  | v + 1 => if c (us c v) < c (v + 1) then v + 1 else us c v
theorem us_le (c : Nat → Int) : ∀ v : Nat, us c v ≤ v
  | 0 => Nat.le_refl _
  | v + 1 => by
    have := us_le c v
    unfold us
    split <;> omega
theorem us_c {c c' : Nat → Int} : ∀ v : Nat, (∀ i, i ≤ v → c i = c' i) → us c v = us c' v
  | 0, _ => rfl
  | v + 1, h => by
    have e := us_c v (fun i hi => h i (by omega))
    have := us_le c v
    unfold us
    rw [← e, h (us c v) (by omega), h (v + 1) (by omega)]
theorem usual_X4 {n : Nat} {g : Nat → Int} (h5 : n ≤ 5) (tg : Tb g) : wp (f_X4_usual n g) (fun r => r = (us (fun v => S4 (fun i j => eq1 (g (5 * i + j)) (v : Int)) n) 40 : Nat)) := by
  unfold f_X4_usual
  refine w_q3 (fun k best most v => v = (k : Int) ∧ 0 ≤ most ∧ most ≤ 25 ∧ ((k = 0 ∧ best = 0 ∧ most = 0) ∨ ∃ m, k = m + 1 ∧ best = (us (fun v => S4 (fun i j => eq1 (g (5 * i + j)) (v : Int)) n) m : Nat) ∧ most = S4 (fun i j => eq1 (g (5 * i + j)) (us (fun v => S4 (fun i j => eq1 (g (5 * i + j)) (v : Int)) n) m : Nat)) n)) 41 0 ⟨rfl, by omega, by omega, Or.inl ⟨rfl, rfl, rfl⟩⟩ (by omega) (by omega) (fun k hk best most v hI nx hn => ?_) (fun best most v hI nx => ?_)
  · obtain ⟨rfl, t1, t2, t3⟩ := hI
    refine w_ltF (by omega) ?_
    refine w_b1 (manyOf_X4 h5 tg (by omega)) (fun r hr => ?_)
    obtain ⟨r1, r2, r3⟩ := hr
    refine w_j ?_
    refine w_lt (by omega) (fun c => ?_) (fun c => ?_)
    · refine hn _ _ _ ⟨by omega, by omega, by omega, Or.inr ⟨k, rfl, ?_, ?_⟩⟩
      · rcases t3 with ⟨rfl, b1, b2⟩ | ⟨m, rfl, b1, b2⟩
        · rfl
        · show ((m + 1 : Nat) : Int) = ((us _ (m + 1) : Nat) : Int)
          unfold us
          rw [if_pos (by omega)]
      · rcases t3 with ⟨rfl, b1, b2⟩ | ⟨m, rfl, b1, b2⟩
        · exact r1
        · unfold us
          rw [if_pos (by omega)]
          exact r1
    · refine hn _ _ _ ⟨by omega, by omega, by omega, Or.inr ⟨k, rfl, ?_, ?_⟩⟩
      · rcases t3 with ⟨rfl, b1, b2⟩ | ⟨m, rfl, b1, b2⟩
        · exact b1
        · unfold us
          rw [if_neg (by omega)]
          exact b1
      · rcases t3 with ⟨rfl, b1, b2⟩ | ⟨m, rfl, b1, b2⟩
        · show most = S4 (fun i j => eq1 (g (5 * i + j)) ((0 : Nat) : Int)) n
          omega
        · unfold us
          rw [if_neg (by omega)]
          exact b2
  · obtain ⟨rfl, t1, t2, t3⟩ := hI
    refine w_ltT (by omega) ?_
    rcases t3 with ⟨q, b1, b2⟩ | ⟨m, q, b1, b2⟩
    · omega
    · have : m = 40 := by omega
      subst this
      exact w_s b1
theorem usual_X9 {n : Nat} {g : Nat → Int} (h5 : n ≤ 5) (tg : Tb g) : wp (f_X9_usual n g) (fun r => r = (us (fun v => S9 (fun i j => eq1 (g (5 * i + j)) (v : Int)) n) 40 : Nat)) := by
  unfold f_X9_usual
  refine w_q2 (fun k best v => v = (k : Int) + 1 ∧ best = (us (fun v => S9 (fun i j => eq1 (g (5 * i + j)) (v : Int)) n) k : Nat)) 40 0 ⟨rfl, rfl⟩ (by omega) (by omega) (fun k hk best v hI nx hn => ?_) (fun best v hI nx => ?_)
  · obtain ⟨rfl, rfl⟩ := hI
    have le := us_le (fun v => S9 (fun i j => eq1 (g (5 * i + j)) (v : Int)) n) k
    refine w_ltF (by omega) ?_
    refine w_b1 (often_X9 h5 tg (by omega)) (fun r hr => ?_)
    refine w_b1 (often_X9 h5 tg (by omega)) (fun s hs => ?_)
    obtain ⟨r1, r2, r3⟩ := hr
    obtain ⟨s1, s2, s3⟩ := hs
    refine w_j ?_
    refine w_lt (by omega) (fun c => ?_) (fun c => ?_)
    · refine hn _ _ ⟨by omega, ?_⟩
      have e : S9 (fun i j => eq1 (g (5 * i + j)) ((us (fun v => S9 (fun i j => eq1 (g (5 * i + j)) (v : Int)) n) k : Nat) : Int)) n < S9 (fun i j => eq1 (g (5 * i + j)) ((k + 1 : Nat) : Int)) n := by
        rw [← s1]
        exact Int.lt_of_lt_of_le c (Int.le_of_eq r1)
      show (k : Int) + 1 = ((us _ (k + 1) : Nat) : Int)
      unfold us
      rw [if_pos e]
      rfl
    · refine hn _ _ ⟨by omega, ?_⟩
      have e : ¬ S9 (fun i j => eq1 (g (5 * i + j)) ((us (fun v => S9 (fun i j => eq1 (g (5 * i + j)) (v : Int)) n) k : Nat) : Int)) n < S9 (fun i j => eq1 (g (5 * i + j)) ((k + 1 : Nat) : Int)) n := by
        rw [← s1]
        exact Int.not_lt.mpr (Int.le_trans (Int.le_of_eq r1.symm) c)
      show _ = ((us _ (k + 1) : Nat) : Int)
      conv => rhs; unfold us
      rw [if_neg e]
  · obtain ⟨rfl, rfl⟩ := hI
    refine w_ltT (by omega) ?_
    exact w_s rfl
theorem usual_same {n : Nat} {g far : Nat → Int} (h3 : 3 ≤ n) (h5 : n ≤ 5) (tg : Tb g) (tf : Tb far) (ag : Ag n g far) : ∃ r, f_X4_usual n g = some r ∧ f_X9_usual n far = some r := by
  refine wp_two (usual_X4 h5 tg) (usual_X9 h5 tf) (fun a b e1 e2 p q => ?_)
  have e : a = b := by
    rw [p, q]
    congr 1
    refine us_c 40 (fun v _ => S_same h3 h5 (fun i j hij hj => ?_))
    rw [ag i j (by omega) (by omega), (tf i j (by omega) (by omega)).2.2.1]
  subst e
  exact ⟨a, e1, e2⟩
