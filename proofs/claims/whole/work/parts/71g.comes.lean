/-! PURE PART: a corner comes into the reference's list -/
theorem compared_X9 {n c : Nat} {cor t f : Nat → Int} (h5 : n ≤ 5) (hc : c ≤ 300) (hf : F80 n f) (ht : F80 n t) (e : ∀ x, x < n → cor (5 * c + x) = f x) : wp (f_X9_compared c n cor t) (fun r => (kcode n f < kcode n t ∧ r < 0 ∧ -100 ≤ r) ∨ (kcode n f = kcode n t ∧ r = 0) ∨ (kcode n t < kcode n f ∧ 0 < r ∧ r ≤ 100)) := by
  unfold f_X9_compared
  refine w_q1 (fun k v => v = (k : Int) ∧ ∀ x, x < k → f x = t x) n 0 ⟨rfl, fa_0⟩ (by omega) (by omega) (fun k hk v hI nx hn => ?_) (fun v hI nx => ?_)
  · obtain ⟨rfl, t1⟩ := hI
    have fk := hf k hk
    have tk := ht k hk
    refine w_ltT (by omega) ?_
    rw [show (5 * (c : Int) + (k : Int)) = ((5 * c + k : Nat) : Int) by omega]
    refine w_gi (by omega) ?_
    refine w_gi (by omega) ?_
    rw [ix_nat (show 5 * c + k < 2147483648 by omega), ix_nat (show k < 2147483648 by omega), e k hk]
    refine w_eq (by omega) (fun q => hn _ ⟨by omega, fa_s t1 q⟩) (fun q => ?_)
    refine w_gi (by omega) ?_
    refine w_gi (by omega) ?_
    refine w_s ?_
    by_cases l : f k < t k
    · exact Or.inl ⟨kcode_first hf ht h5 hk t1 l, by omega, by omega⟩
    · exact Or.inr (Or.inr ⟨kcode_first ht hf h5 hk (fun x hx => (t1 x hx).symm) (by omega), by omega, by omega⟩)
  · obtain ⟨rfl, t1⟩ := hI
    refine w_ltF (by omega) ?_
    exact w_s (Or.inr (Or.inl ⟨kcode_c t1, rfl⟩))
/-- rows of five, as many as c tells -/
def RowL (n h : Nat) (cor : Nat → Int) (c : Nat → Nat) : Prop := ∀ i, i < h → ∃ f, F80 n f ∧ kcode n f = c i ∧ ∀ x, x < n → cor (5 * i + x) = f x
theorem insR_X9 {n p h : Nat} {cor t : Nat → Int} {c : Nat → Nat} (h5 : n ≤ 5) (hp : p ≤ h) (hh : h ≤ 50) (ht : F80 n t) (hc : RowL n h cor c) (lo : ∀ i, i < p → c i < kcode n t) (hi : ∀ i, p ≤ i → i < h → kcode n t < c i) : wp (lv (((5 * (h : Int)) - 1)) (fun x49 => lq2 (fun (n50 : Int → (Nat → Int) → Option (Int × (Nat → Int))) (v2_50 : Int) (this_corner_50 : Nat → Int) => if ltI v2_50 (5 * (p : Int)) = true then (lq2 (fun (n79 : Int → (Nat → Int) → Option (Int × (Nat → Int))) (v2_79 : Int) (this_corner_79 : Nat → Int) => if ltI v2_79 n = true then (grd (iin v2_79 6) (lv ((t (ix v2_79))) (fun x102 => grd (iin ((5 * (p : Int)) + v2_79) 2000) (n79 (v2_79 + 1) (up this_corner_79 (ix ((5 * (p : Int)) + v2_79)) x102))))) else (lv (((h : Int) + 1)) (fun x116 => some (x116, this_corner_79)))) 300 0 this_corner_50) else (grd (iin v2_50 2000) (lv ((this_corner_50 (ix v2_50))) (fun x70 => grd (iin (v2_50 + 5) 2000) (n50 (v2_50 + (-1)) (up this_corner_50 (ix (v2_50 + 5)) x70)))))) 300 x49 cor)) (fun o => ∃ (h' : Nat) (c' : Nat → Nat), o.1 = h' ∧ INS h c h' c' (kcode n t) ∧ RowL n h' o.2 c') := by
  refine w_l (fun y ey => ?_)
  refine w_q2 (fun k v q => v = 5 * (h : Int) - 1 - (k : Int) ∧ (∀ j, j < 5 * h + 5 - k → q j = cor j) ∧ ∀ j, 5 * h - k ≤ j → j < 5 * h → q (j + 5) = cor j) (5 * (h - p)) 0 ⟨by omega, fun j _ => rfl, fun j a b => absurd a (by omega)⟩ (by omega) (by omega) (fun k hk v q hI nx hn => ?_) (fun v q hI nx => ?_)
  · obtain ⟨rfl, t1, t2⟩ := hI
    refine w_ltF (by omega) ?_
    rw [show 5 * (h : Int) - 1 - (k : Int) = ((5 * h - 1 - k : Nat) : Int) by omega]
    refine w_gi (by omega) ?_
    refine w_l (fun z ez => ?_)
    rw [show ((5 * h - 1 - k : Nat) : Int) + 5 = ((5 * h + 4 - k : Nat) : Int) by omega]
    refine w_gi (by omega) ?_
    rw [ix_nat (show 5 * h + 4 - k < 2147483648 by omega)]
    rw [ix_nat (show 5 * h - 1 - k < 2147483648 by omega), t1 _ (by omega)] at ez
    refine hn _ _ ⟨by omega, fun j hj => ?_, fun j a b => ?_⟩
    · rw [up_ne _ _ (by omega)]
      exact t1 j (by omega)
    · by_cases e : j = 5 * h - 1 - k
      · rw [show j + 5 = 5 * h + 4 - k by omega, up_eq, ez, e]
      · rw [up_ne _ _ (by omega)]
        exact t2 j (by omega) b
  · obtain ⟨rfl, t1, t2⟩ := hI
    refine w_ltT (by omega) ?_
    refine w_q2 (fun m v w => v = (m : Int) ∧ (∀ x, x < m → w (5 * p + x) = t x) ∧ ∀ j, (j < 5 * p ∨ 5 * p + 5 ≤ j) → w j = q j) n 0 ⟨rfl, fa_0, fun j _ => rfl⟩ (by omega) (by omega) (fun m hm v w hI ny hy => ?_) (fun v w hI ny => ?_)
    · obtain ⟨rfl, u1, u2⟩ := hI
      refine w_ltT (by omega) ?_
      refine w_gi (by omega) ?_
      refine w_l (fun z ez => ?_)
      rw [show 5 * (p : Int) + (m : Int) = ((5 * p + m : Nat) : Int) by omega]
      refine w_gi (by omega) ?_
      rw [ix_nat (show 5 * p + m < 2147483648 by omega)]
      rw [ix_nat (show m < 2147483648 by omega)] at ez
      refine hy _ _ ⟨by omega, fun x hx => ?_, fun j hj => ?_⟩
      · by_cases e : x = m
        · rw [e, up_eq]
          exact ez
        · rw [up_ne _ _ (by omega)]
          exact u1 x (by omega)
      · rw [up_ne _ _ (by omega)]
        exact u2 j hj
    · obtain ⟨rfl, u1, u2⟩ := hI
      refine w_ltF (by omega) ?_
      refine w_lz ?_
      refine w_s ⟨h + 1, fun i => if i < p then c i else if i = p then kcode n t else c (i - 1), rfl, Or.inr ⟨rfl, p, hp, fun i hi2 => ⟨if_pos hi2, lo i hi2⟩, ?_, fun i a b => ⟨?_, hi i a b⟩⟩, fun i hi2 => ?_⟩
      · show (if p < p then _ else if p = p then kcode n t else _) = kcode n t
        rw [if_neg (by omega), if_pos rfl]
      · show (if i + 1 < p then _ else if i + 1 = p then kcode n t else c (i + 1 - 1)) = c i
        rw [if_neg (by omega), if_neg (by omega), show i + 1 - 1 = i by omega]
      · show ∃ f, F80 n f ∧ kcode n f = (if i < p then c i else if i = p then kcode n t else c (i - 1)) ∧ ∀ x, x < n → w (5 * i + x) = f x
        by_cases a : i < p
        · rw [if_pos a]
          obtain ⟨f, f1, f2, f3⟩ := hc i (by omega)
          exact ⟨f, f1, f2, fun x hx => by rw [u2 _ (by omega), t1 _ (by omega)]; exact f3 x hx⟩
        · by_cases b : i = p
          · rw [if_neg a, if_pos b, b]
            exact ⟨t, ht, rfl, u1⟩
          · rw [if_neg a, if_neg b]
            obtain ⟨j, rfl⟩ : ∃ j, i = j + 1 := ⟨i - 1, by omega⟩
            rw [show j + 1 - 1 = j by omega]
            obtain ⟨f, f1, f2, f3⟩ := hc j (by omega)
            refine ⟨f, f1, f2, fun x hx => ?_⟩
            rw [u2 _ (by omega), show 5 * (j + 1) + x = (5 * j + x) + 5 by omega, t2 _ (by omega) (by omega)]
            exact f3 x hx
theorem comes_X9 {n h : Nat} {cor t : Nat → Int} {c : Nat → Nat} (h5 : n ≤ 5) (hh : h ≤ 50) (ht : F80 n t) (hc : RowL n h cor c) (so : ∀ i j, i < j → j < h → c i < c j) : wp (f_X9_cornerComes n h cor t) (fun o => ∃ (h' : Nat) (c' : Nat → Nat), o.1 = h' ∧ INS h c h' c' (kcode n t) ∧ RowL n h' o.2 c') := by
  unfold f_X9_cornerComes
  refine w_q1 (fun p v => v = (p : Int) ∧ ∀ i, i < p → c i < kcode n t) h 0 ⟨rfl, fa_0⟩ (by omega) (by omega) (fun p hp v hI ny hy => ?_) (fun v hI ny => ?_)
  · obtain ⟨rfl, t1⟩ := hI
    obtain ⟨f, f1, f2, f3⟩ := hc p hp
    refine w_j ?_
    refine w_ltT (by omega) ?_
    refine w_b1 (compared_X9 h5 (by omega) f1 ht f3) (fun r hr => ?_)
    rw [f2] at hr
    refine w_lt (by omega) (fun lt => hy _ ⟨by omega, fa_s t1 (by omega)⟩) (fun ge => ?_)
    refine w_j ?_
    refine w_ltT (by omega) ?_
    refine w_b1 (compared_X9 h5 (by omega) f1 ht f3) (fun r2 hr2 => ?_)
    rw [f2] at hr2
    refine w_eq (by omega) (fun e => ?_) (fun ne => ?_)
    · exact w_s ⟨h, c, rfl, Or.inl ⟨rfl, fun i _ => rfl, p, hp, by omega⟩, hc⟩
    · exact insR_X9 h5 (by omega) hh ht hc t1 (fun i a b => by
        by_cases e : i = p
        · rw [e]
          omega
        · have := so p i (by omega) b
          omega)
  · obtain ⟨rfl, t1⟩ := hI
    refine w_j ?_
    refine w_ltF (by omega) ?_
    refine w_j ?_
    refine w_ltF (by omega) ?_
    exact insR_X9 h5 (by omega) hh ht hc t1 (fun i a b => absurd a (by omega))
