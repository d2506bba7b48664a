/-! PURE PART: rounds, told by both -/
def cyl (g : Nat → Int) (s : Nat → Nat) : Nat → Int
  | 0 => 0
  | k + 1 => cyl g s k + g (5 * s k + s (k + 1))
def cyc (n : Nat) (g : Nat → Int) (s : Nat → Nat) : Int := g (5 * s (n - 1) + s 0) + cyl g s (n - 1)
theorem cyl_in {n : Nat} {g : Nat → Int} {s : Nat → Nat} (h5 : n ≤ 5) (tg : Tb g) (hs : ∀ x, x < n → s x < n) : ∀ k, k + 1 ≤ n → 0 ≤ cyl g s k ∧ cyl g s k ≤ 40 * k
  | 0, _ => ⟨Int.le_refl _, by show (0 : Int) ≤ 40 * ((0 : Nat) : Int); omega⟩
  | k + 1, h => by
    have ih := cyl_in h5 tg hs k (by omega)
    have a := hs k (by omega)
    have b := hs (k + 1) (by omega)
    have t := tg (s k) (s (k + 1)) (by omega) (by omega)
    show 0 ≤ cyl g s k + g (5 * s k + s (k + 1)) ∧ cyl g s k + g (5 * s k + s (k + 1)) ≤ 40 * ((k + 1 : Nat) : Int)
    omega
theorem round_X9 {n : Nat} {g ord : Nat → Int} (h3 : 3 ≤ n) (h5 : n ≤ 5) (tg : Tb g) : wp (f_X9_round n g ord) (fun u => (∀ o, o < n ^ n → INJ n (nxt n o) → 0 ≤ u.1 ∧ u.1 ≤ cyc n g (nxt n o)) ∧ (u.1 = -1 ∨ ∃ o, o < n ^ n ∧ INJ n (nxt n o) ∧ u.1 = cyc n g (nxt n o))) := by
  unfold f_X9_round
  have lim := nn_le h5
  refine w_q3 (fun o u v q => v = (o : Int) ∧ -1 ≤ u ∧ u ≤ 300 ∧ (∀ o', o' < o → INJ n (nxt n o') → 0 ≤ u ∧ u ≤ cyc n g (nxt n o')) ∧ (u = -1 ∨ ∃ o', o' < n ^ n ∧ INJ n (nxt n o') ∧ u = cyc n g (nxt n o'))) (n ^ n) 0 ⟨rfl, by omega, by omega, fa_0, Or.inl rfl⟩ (by omega) (by omega) (fun o ho u v q hI nx hn => ?_) (fun u v q hI nx => ?_)
  · obtain ⟨rfl, t1, t2, t3, t4⟩ := hI
    have sl : ∀ x, x < n → nxt n o x < n := fun x _ => nxt_lt (by omega)
    refine w_b1s (orders_X9 h3 h5) ?_
    refine w_ltT (by omega) ?_
    refine w_b2 (isOrder_X9 h3 h5 (by omega)) (fun b w hb => ?_)
    obtain ⟨b1, b2⟩ := hb
    have b1' : bI b (INJ n (nxt n o)) := b1
    have b2' : ∀ x, x < n → w x = (nxt n o x : Int) := b2
    refine w_j ?_
    refine w_bI b1' (fun no _ => hn _ _ _ ⟨by omega, t1, t2, fa_s t3 (fun q => absurd q no), t4⟩) (fun yes _ => ?_)
    have d0 := sl 0 (by omega)
    have dn := sl (n - 1) (by omega)
    refine w_gi (by omega) ?_
    refine w_gi (by omega) ?_
    rw [show (n : Int) - 1 = ((n - 1 : Nat) : Int) by omega, ix_nat (show n - 1 < 2147483648 by omega), show ix 0 = 0 from rfl, b2' (n - 1) (by omega), b2' 0 (by omega)]
    refine w_d tg (by omega) (fun r e l m => ?_)
    refine w_q2 (fun k a v => v = ((k + 1 : Nat) : Int) ∧ a = r + cyl g (nxt n o) k) (n - 1) 0 ⟨rfl, by show r = r + 0; omega⟩ (by omega) (by omega) (fun k hk a v hI ny hy => ?_) (fun a v hI ny => ?_)
    · obtain ⟨rfl, rfl⟩ := hI
      have dk := sl k (by omega)
      have dk1 := sl (k + 1) (by omega)
      refine w_ltT (by omega) ?_
      rw [show ((k + 1 : Nat) : Int) - 1 = (k : Int) by omega]
      refine w_gi (by omega) ?_
      refine w_gi (by omega) ?_
      rw [ix_nat (show k < 2147483648 by omega), ix_nat (show k + 1 < 2147483648 by omega), b2' k (by omega), b2' (k + 1) (by omega)]
      refine w_d tg (by omega) (fun r1 e1 l1 m1 => ?_)
      refine w_lz ?_
      refine hy _ _ ⟨by omega, ?_⟩
      show r + cyl g (nxt n o) k + r1 = r + (cyl g (nxt n o) k + g (5 * nxt n o k + nxt n o (k + 1)))
      omega
    · obtain ⟨rfl, rfl⟩ := hI
      have ci := cyl_in h5 tg sl (n - 1) (by omega)
      have ec : r + cyl g (nxt n o) (n - 1) = cyc n g (nxt n o) := by
        unfold cyc
        rw [e]
      refine w_ltF (by omega) ?_
      refine w_j ?_
      refine w_j ?_
      have go : u < 0 ∨ r + cyl g (nxt n o) (n - 1) < u → wp (nx (r + cyl g (nxt n o) (n - 1)) ((o : Int) + 1) w) (fun u => (∀ o, o < n ^ n → INJ n (nxt n o) → 0 ≤ u.1 ∧ u.1 ≤ cyc n g (nxt n o)) ∧ (u.1 = -1 ∨ ∃ o, o < n ^ n ∧ INJ n (nxt n o) ∧ u.1 = cyc n g (nxt n o))) := fun h => hn _ _ _ ⟨by omega, by omega, by omega, fa_s (fun o' ho' q => by have := t3 o' ho' q; omega) (fun _ => by omega), Or.inr ⟨o, ho, yes, ec⟩⟩
      refine w_lt (by omega) (fun c => go (Or.inl c)) (fun c => ?_)
      refine w_lt (by omega) (fun c2 => go (Or.inr c2)) (fun c2 => ?_)
      exact hn _ _ _ ⟨by omega, t1, t2, fa_s t3 (fun _ => by omega), t4⟩
  · obtain ⟨rfl, t1, t2, t3, t4⟩ := hI
    refine w_b1s (orders_X9 h3 h5) ?_
    refine w_ltF (by omega) ?_
    exact w_s ⟨t3, t4⟩
theorem bq_or0 {P a z : Nat} (h : bq P z = 0) (ne : z ≠ a) : bq (P ||| 1 <<< a) z = 0 := by
  have b := bq_or P (1 <<< a) z
  rw [bq_one] at b
  have c := bq_c (P ||| 1 <<< a) z
  omega
theorem bq_or1 {P a z : Nat} (h : bq (P ||| 1 <<< a) z = 0) : bq P z = 0 ∧ z ≠ a := by
  have b := bq_or P (1 <<< a) z
  rw [bq_one] at b
  have c := bq_c P z
  omega
theorem b1z {z : Nat} (h : 0 < z) : bq 1 z = 0 := by
  have b := bq_one 0 z
  have c := bq_c (1 <<< 0) z
  rw [show (1 : Nat) <<< 0 = 1 from rfl] at b c
  omega
theorem nxt_of {n : Nat} (h3 : 3 ≤ n) (h5 : n ≤ 5) (s : Nat → Nat) (hs : ∀ x, x < n → s x < n) : ∃ o, o < n ^ n ∧ ∀ x, x < n → nxt n o x = s x := by
  have a0 := hs 0 (by omega)
  have a1 := hs 1 (by omega)
  have a2 := hs 2 (by omega)
  have hn : n = 3 ∨ n = 4 ∨ n = 5 := by omega
  unfold nxt
  rcases hn with rfl | rfl | rfl
  · refine ⟨s 0 + 3 * s 1 + 9 * s 2, by show _ < 27; omega, fun x hx => ?_⟩
    have : x = 0 ∨ x = 1 ∨ x = 2 := by omega
    rcases this with rfl | rfl | rfl
    · show _ / 1 % 3 = _
      omega
    · show _ / 3 % 3 = _
      omega
    · show _ / 9 % 3 = _
      omega
  · have a3 := hs 3 (by omega)
    refine ⟨s 0 + 4 * s 1 + 16 * s 2 + 64 * s 3, by show _ < 256; omega, fun x hx => ?_⟩
    have : x = 0 ∨ x = 1 ∨ x = 2 ∨ x = 3 := by omega
    rcases this with rfl | rfl | rfl | rfl
    · show _ / 1 % 4 = _
      omega
    · show _ / 4 % 4 = _
      omega
    · show _ / 16 % 4 = _
      omega
    · show _ / 64 % 4 = _
      omega
  · have a3 := hs 3 (by omega)
    have a4 := hs 4 (by omega)
    refine ⟨s 0 + 5 * s 1 + 25 * s 2 + 125 * s 3 + 625 * s 4, by show _ < 3125; omega, fun x hx => ?_⟩
    have : x = 0 ∨ x = 1 ∨ x = 2 ∨ x = 3 ∨ x = 4 := by omega
    rcases this with rfl | rfl | rfl | rfl | rfl
    · show _ / 1 % 5 = _
      omega
    · show _ / 5 % 5 = _
      omega
    · show _ / 25 % 5 = _
      omega
    · show _ / 125 % 5 = _
      omega
    · show _ / 625 % 5 = _
      omega
theorem cyc_c {n : Nat} {g far : Nat → Int} {s s' : Nat → Nat} (h3 : 3 ≤ n) (ag : Ag n g far) (hs : ∀ x, x < n → s x < n) (e : ∀ x, x < n → s' x = s x) : cyc n g s = cyc n far s' := by
  have l : ∀ k, k + 1 ≤ n → cyl g s k = cyl far s' k := by
    intro k
    induction k with
    | zero => exact fun _ => rfl
    | succ k ih =>
      intro h
      have a := hs k (by omega)
      have b := hs (k + 1) (by omega)
      show cyl g s k + g (5 * s k + s (k + 1)) = cyl far s' k + far (5 * s' k + s' (k + 1))
      rw [ih (by omega), e k (by omega), e (k + 1) (by omega), ag _ _ (by omega) (by omega)]
  unfold cyc
  have a := hs (n - 1) (by omega)
  have b := hs 0 (by omega)
  rw [l (n - 1) (by omega), e (n - 1) (by omega), e 0 (by omega), ag _ _ (by omega) (by omega)]
