/-! PURE PART: parts of one another; means -/
theorem div_nat {a b : Nat} (ha : a < 2147483648) (hb : b < 2147483648) : divI a b = ((a / b : Nat) : Int) := by
  have l : a / b ≤ a := Nat.div_le_self a b
  unfold divI
  rw [Int32.toInt_div, jz_ti (by omega) (by omega), jz_ti (by omega) (by omega), ← Int.ofNat_tdiv]
  generalize a / b = q at l ⊢
  exact Int.bmod_eq_of_le (by omega) (by omega)
theorem rem_nat {a b : Nat} (ha : a < 2147483648) (hb : b < 2147483648) : remI a b = ((a % b : Nat) : Int) := by
  have q : jz a / jz b = jz ((a / b : Nat) : Int) := by
    have e := div_nat ha hb
    unfold divI at e
    rw [← e, jz_to]
  have m : a % b ≤ a := Nat.mod_le a b
  have d : b * (a / b) + a % b = a := Nat.div_add_mod a b
  have e : (a : Int) - ((a / b : Nat) : Int) * (b : Int) = ((a % b : Nat) : Int) := by
    have : ((b * (a / b) + a % b : Nat) : Int) = (a : Int) := by rw [d]
    rw [Int.natCast_add, Int.natCast_mul, Int.mul_comm] at this
    omega
  unfold remI
  rw [q, ← jz_mul, ← jz_sub, e, jz_ti (by omega) (by omega)]
theorem gcd_X8 {a b : Nat} (ha : a < 2147483648) (hb : b ≤ 16) : wp (f_X8_commonDivisor a b) (fun r => r = (Nat.gcd a b : Nat)) := by
  unfold f_X8_commonDivisor
  refine w_q3 (fun k u v w => w = (k : Int) ∧ ∃ x y : Nat, u = x ∧ v = y ∧ x < 2147483648 ∧ y + k ≤ 16 ∧ Nat.gcd x y = Nat.gcd a b) 16 0 ⟨rfl, a, b, rfl, rfl, ha, by omega, rfl⟩ (by omega) (by omega) (fun k hk u v w hI nx hn => ?_) (fun u v w hI nx => ?_)
  · obtain ⟨rfl, x, y, rfl, rfl, t1, t2, t3⟩ := hI
    refine w_j ?_
    refine w_ltT (by omega) ?_
    by_cases c : y = 0
    · subst c
      refine w_ltF (by omega) ?_
      exact w_s (by rw [← t3, Nat.gcd_zero_right])
    · refine w_ltT (by omega) ?_
      refine w_gn (by omega) ?_
      refine w_lz ?_
      rw [rem_nat t1 (by omega)]
      have l : x % y < y := Nat.mod_lt _ (by omega)
      exact hn _ _ _ ⟨by omega, y, x % y, rfl, rfl, by omega, by omega, by rw [Nat.gcd_comm y, ← Nat.gcd_rec, Nat.gcd_comm]; exact t3⟩
  · obtain ⟨rfl, x, y, rfl, rfl, t1, t2, t3⟩ := hI
    refine w_j ?_
    refine w_ltT (by omega) ?_
    refine w_ltF (by omega) ?_
    have c : y = 0 := by omega
    subst c
    exact w_s (by rw [← t3, Nat.gcd_zero_right])
def lowT (a b : Nat) (p : Int) : Int64 := if p = 0 then i2lI ((a / Nat.gcd a b : Nat) : Int) else i2lI ((b / Nat.gcd a b : Nat) : Int)
theorem low_X8 {a b : Nat} {p : Int} (ha : a < 2147483648) (hb : b ≤ 16) (h0 : 0 < b) (hp : p = 0 ∨ p = 1) : wp (f_X8_lowestTerms a b p) (fun r => r = lowT a b p) := by
  unfold f_X8_lowestTerms
  have gp : 0 < Nat.gcd a b := Nat.gcd_pos_of_pos_right _ h0
  have gl : Nat.gcd a b ≤ b := Nat.gcd_le_right _ h0
  refine w_j ?_
  refine w_ltT (by omega) ?_
  refine w_ltF (by omega) ?_
  refine w_ltF (by omega) ?_
  refine w_b1 (gcd_X8 ha hb) (fun r hr => ?_)
  subst hr
  refine w_ltT (by omega) ?_
  refine w_j ?_
  unfold lowT
  rcases hp with rfl | rfl
  · refine w_eqT rfl ?_
    refine w_gn (by omega) ?_
    rw [div_nat ha (by omega), if_pos rfl]
    exact w_s rfl
  · refine w_eqF (by omega) ?_
    refine w_gn (by omega) ?_
    rw [div_nat (by omega) (by omega), if_neg (by decide)]
    exact w_s rfl
theorem low_X8n {a b : Nat} {p : Int} (ha : a < 2147483648) (hb : b ≤ 16) (gp : rg p) (hp : b = 0 ∨ ¬ (p = 0 ∨ p = 1)) : wp (f_X8_lowestTerms a b p) (fun r => r = -9223372036854775808) := by
  unfold f_X8_lowestTerms
  obtain ⟨g1, g2⟩ := gp
  refine w_j ?_
  refine w_lt (by omega) (fun c1 => ?_) (fun c1 => w_s rfl)
  refine w_lt (by omega) (fun c2 => w_s rfl) (fun c2 => ?_)
  refine w_lt (by omega) (fun c3 => w_s rfl) (fun c3 => ?_)
  omega
theorem part_X9 {a b : Nat} {p : Int} (ha : a < 2147483648) (hb : b ≤ 16) (h0 : 0 < b) (hp : p = 0 ∨ p = 1) : wp (f_X9_asPart a b p) (fun r => r = lowT a b p) := by
  unfold f_X9_asPart
  have gp : 0 < Nat.gcd a b := Nat.gcd_pos_of_pos_right _ h0
  have gl : Nat.gcd a b ≤ b := Nat.gcd_le_right _ h0
  have fin : ∀ x : Nat, x = Nat.gcd a b → wp (jn (fun (s0_41 : Int64) => some s0_41) (fun (k41 : Int64 → Option Int64) => if eqI p 0 = true then (grd (!(eqI (x : Int) 0)) (k41 (i2lI (divI a x)))) else (grd (!(eqI (x : Int) 0)) (k41 (i2lI (divI b x)))))) (fun r => r = lowT a b p) := by
    intro x hx
    refine w_j ?_
    unfold lowT
    rcases hp with rfl | rfl
    · refine w_eqT rfl ?_
      refine w_gn (by omega) ?_
      rw [div_nat ha (by omega), if_pos rfl, hx]
      exact w_s rfl
    · refine w_eqF (by omega) ?_
      refine w_gn (by omega) ?_
      rw [div_nat (by omega) (by omega), if_neg (by decide), hx]
      exact w_s rfl
  refine w_q2 (fun k u v => ∃ x y : Nat, u = x ∧ v = y ∧ x < 2147483648 ∧ y + k ≤ 16 ∧ Nat.gcd x y = Nat.gcd a b) 16 0 ⟨a, b, rfl, rfl, ha, by omega, rfl⟩ (by omega) (by omega) (fun k hk u v hI nx hn => ?_) (fun u v hI nx => ?_)
  · obtain ⟨x, y, rfl, rfl, t1, t2, t3⟩ := hI
    by_cases c : y = 0
    · subst c
      refine w_eqT rfl ?_
      exact fin x (by rw [← t3, Nat.gcd_zero_right])
    · refine w_eqF (by omega) ?_
      refine w_gn (by omega) ?_
      refine w_lz ?_
      rw [rem_nat t1 (by omega)]
      have l : x % y < y := Nat.mod_lt _ (by omega)
      exact hn _ _ ⟨y, x % y, rfl, rfl, by omega, by omega, by rw [Nat.gcd_comm y, ← Nat.gcd_rec, Nat.gcd_comm]; exact t3⟩
  · obtain ⟨x, y, rfl, rfl, t1, t2, t3⟩ := hI
    have c : y = 0 := by omega
    subst c
    refine w_eqT rfl ?_
    exact fin x (by rw [← t3, Nat.gcd_zero_right])
theorem twos_c {n : Nat} (h3 : 3 ≤ n) (h5 : n ≤ 5) : divI ((n : Int) * ((n : Int) - 1)) 2 = ((n * (n - 1) / 2 : Nat) : Int) ∧ 0 < n * (n - 1) / 2 ∧ n * (n - 1) / 2 ≤ 16 := by
  have hn : n = 3 ∨ n = 4 ∨ n = 5 := by omega
  rcases hn with rfl | rfl | rfl <;> decide
theorem girth_in {n : Nat} {g far : Nat → Int} (h3 : 3 ≤ n) (h5 : n ≤ 5) (tg : Tb g) (tf : Tb far) (ag : Ag n g far) : ∃ r : Nat, f_X4_girth n g = some (r : Int) ∧ f_X9_girth n far = some (r : Int) ∧ r < 2147483648 := by
  obtain ⟨r, e1, e2⟩ := girth_same (n := (n : Int)) (by omega) (by omega) tf ag
  have e : ∃ z : Nat, r = z ∧ z < 2147483648 := by
    rw [girth_X4 h5] at e1
    have er : pr4 (fun a b => a + b) g n = r := Option.some.inj e1
    rw [← er]
    have t : ∀ i j : Nat, i < 5 → j < 5 → 0 ≤ g (5 * i + j) ∧ g (5 * i + j) ≤ 40 := fun i j hi hj => ⟨(tg i j hi hj).1, (tg i j hi hj).2.1⟩
    have t1 : 0 ≤ g 1 ∧ g 1 ≤ 40 := t 0 1 (by omega) (by omega)
    have t2 : 0 ≤ g 2 ∧ g 2 ≤ 40 := t 0 2 (by omega) (by omega)
    have t3 : 0 ≤ g 3 ∧ g 3 ≤ 40 := t 0 3 (by omega) (by omega)
    have t4 : 0 ≤ g 4 ∧ g 4 ≤ 40 := t 0 4 (by omega) (by omega)
    have t5 : 0 ≤ g 7 ∧ g 7 ≤ 40 := t 1 2 (by omega) (by omega)
    have t6 : 0 ≤ g 8 ∧ g 8 ≤ 40 := t 1 3 (by omega) (by omega)
    have t7 : 0 ≤ g 9 ∧ g 9 ≤ 40 := t 1 4 (by omega) (by omega)
    have t8 : 0 ≤ g 13 ∧ g 13 ≤ 40 := t 2 3 (by omega) (by omega)
    have t9 : 0 ≤ g 14 ∧ g 14 ≤ 40 := t 2 4 (by omega) (by omega)
    have t10 : 0 ≤ g 19 ∧ g 19 ≤ 40 := t 3 4 (by omega) (by omega)
    have b : 0 ≤ pr4 (fun a b => a + b) g n ∧ pr4 (fun a b => a + b) g n ≤ 400 := by
      have hn : n = 3 ∨ n = 4 ∨ n = 5 := by omega
      rcases hn with rfl | rfl | rfl
      · show 0 ≤ 0 + g 1 + g 2 + g 7 ∧ 0 + g 1 + g 2 + g 7 ≤ 400
        omega
      · show 0 ≤ 0 + g 1 + g 2 + g 3 + g 7 + g 8 + g 13 ∧ 0 + g 1 + g 2 + g 3 + g 7 + g 8 + g 13 ≤ 400
        omega
      · show 0 ≤ 0 + g 1 + g 2 + g 3 + g 4 + g 7 + g 8 + g 9 + g 13 + g 14 + g 19 ∧ 0 + g 1 + g 2 + g 3 + g 4 + g 7 + g 8 + g 9 + g 13 + g 14 + g 19 ≤ 400
        omega
    obtain ⟨z, hz⟩ := toN b.1
    exact ⟨z, hz, by omega⟩
  obtain ⟨z, rfl, hz⟩ := e
  exact ⟨z, e1, e2, hz⟩
theorem st_24 {x : Nat → Int} {X : Nat → Nat → Int} {kx : Nat → Int64} {it : Nat → Nat → Int64} {F : Nat → Int} {B : Nat → Nat → Int} {cl bt : Nat → Int64} (h : Rel x X kx it F B cl bt) (p1 : Int) (g1 : rg p1) : ∃ (r : Int64), f_X8_mean p1 (x 1) (X 0) = some r ∧ f_X9_mean p1 (F 0) (B 1) = some r ∧ Rel x X kx it F B cl bt := by
  obtain ⟨⟨⟨e0, h3, h5, tg, tf, ag⟩, hNu, hMp, hSe, hEv, hBo⟩, hR⟩ := id h
  obtain ⟨n, hn⟩ := toN (show 0 ≤ x 1 by omega)
  rw [hn] at ag
  rw [e0, hn]
  obtain ⟨z, k1, k2, k3⟩ := girth_in (n := n) (by omega) (by omega) tg tf ag
  obtain ⟨q1, q2, q3⟩ := twos_c (n := n) (by omega) (by omega)
  have key : ∃ r, wp (f_X8_mean p1 n (X 0)) (fun s => s = r) ∧ wp (f_X9_mean p1 n (B 1)) (fun s => s = r) := by
    unfold f_X8_mean f_X9_mean
    have m4 : f_X4_manyTwos n = some ((n * (n - 1) / 2 : Nat) : Int) := by
      unfold f_X4_manyTwos
      rw [q1]
      rfl
    by_cases c : p1 = 0 ∨ p1 = 1
    · refine ⟨lowT z (n * (n - 1) / 2) p1, ?_, ?_⟩
      · refine w_b1s k1 ?_
        refine w_b1s m4 ?_
        exact w_b1 (low_X8 k3 q3 q2 c) (fun r hr => w_s hr)
      · rw [in_X9 g1 ⟨by omega, by omega⟩ ⟨by omega, by omega⟩, b01_t (by omega), bd1_s]
        refine w_j ?_
        refine w_eqF (by omega) ?_
        refine w_b1s k2 ?_
        refine w_gn (by omega) ?_
        rw [q1]
        exact w_b1 (part_X9 k3 q3 q2 c) (fun r hr => w_s hr)
    · refine ⟨-9223372036854775808, ?_, ?_⟩
      · refine w_b1s k1 ?_
        refine w_b1s m4 ?_
        exact w_b1 (low_X8n k3 q3 g1 (Or.inr c)) (fun r hr => w_s hr)
      · rw [in_X9 g1 ⟨by omega, by omega⟩ ⟨by omega, by omega⟩, b01_f (by omega), bd1_s]
        refine w_j ?_
        refine w_eqT rfl ?_
        exact w_s rfl
  obtain ⟨r, a, b⟩ := key
  obtain ⟨a1, a2, a3⟩ := a
  obtain ⟨b1, b2, b3⟩ := b
  exact ⟨r, by rw [a2, a3], by rw [b2, b3], h⟩
