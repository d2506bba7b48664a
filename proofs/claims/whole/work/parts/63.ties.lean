/-! PURE PART: functions that keep, are least; tight twos -/
def KEEP (n : Nat) (g f : Nat → Int) : Prop := ∀ x, x < n → ∀ y, y < n → x ≠ y → 2 * g (5 * x + y) ≤ f x + f y
def TI (g f : Nat → Int) (x y : Nat) : Prop := f x + f y = 2 * g (5 * x + y)
def FR (n : Nat) (f : Nat → Int) : Prop := ∀ x, x < n → -10000 ≤ f x ∧ f x ≤ 10000
theorem keep_X7 {n : Nat} {g f : Nat → Int} (h5 : n ≤ 5) (tg : Tb g) (hf : FR n f) : wp (f_X7_keepApart n g f) (fun r => bI r (KEEP n g f)) := by
  unfold f_X7_keepApart
  refine w_q1 (fun k v => v = (k : Int) ∧ ∀ x, x < k → ∀ y, y < n → x < y → 2 * g (5 * x + y) ≤ f x + f y) n 0 ⟨rfl, fa_0⟩ (by omega) (by omega) (fun k hk v hI nx hn => ?_) (fun v hI nx => ?_)
  · obtain ⟨rfl, t1⟩ := hI
    refine w_ltT (by omega) ?_
    refine w_l (fun x hx => ?_)
    refine w_q1 (fun m v => v = (m : Int) ∧ k < m ∧ ∀ y, y < m → k < y → 2 * g (5 * k + y) ≤ f k + f y) n (k + 1) ⟨by omega, by omega, fun y hy q => absurd q (by omega)⟩ (by omega) (by omega) (fun m hm v hI ny hy => ?_) (fun v hI ny => ?_)
    · obtain ⟨rfl, km, t2⟩ := hI
      have f1 := hf k hk
      have f2 := hf m hm
      refine w_ltT (by omega) ?_
      refine w_gi (by omega) ?_
      refine w_gi (by omega) ?_
      refine w_gap tg (by omega) (fun r e l u => ?_)
      rw [ix_nat (show k < 2147483648 by omega), ix_nat (show m < 2147483648 by omega)]
      refine w_lt (by omega) (fun c => w_s (bI_0 (fun al => ?_))) (fun c => hy _ ⟨by omega, by omega, fa_s t2 (fun _ => by omega)⟩)
      have := al k hk m hm (by omega)
      omega
    · obtain ⟨rfl, km, t2⟩ := hI
      refine w_ltF (by omega) ?_
      exact hn _ ⟨by omega, fa_s t1 t2⟩
  · obtain ⟨rfl, t1⟩ := hI
    refine w_ltF (by omega) ?_
    refine w_s (bI_1 (fun x hx y hy ne => ?_))
    by_cases l : x < y
    · exact t1 x hx y hy l
    · have a := t1 y hy x hx (by omega)
      have b := (tg x y (by omega) (by omega)).2.2.1
      omega
theorem keeps_X9 {n a N : Nat} {g c f : Nat → Int} (h5 : n ≤ 5) (tg : Tb g) (hf : FR n f) (hc : ∀ x, x < n → c (a + x) = f x) (hN : a + n ≤ N ∧ N < 3000) : wp (f_X9_keeps a N n g c) (fun r => bI r (KEEP n g f)) := by
  unfold f_X9_keeps
  refine w_q1 (fun k v => v = (k : Int) ∧ ∀ x, x < k → ∀ y, y < x → 2 * g (5 * x + y) ≤ f x + f y) n 0 ⟨rfl, fa_0⟩ (by omega) (by omega) (fun k hk v hI nx hn => ?_) (fun v hI nx => ?_)
  · obtain ⟨rfl, t1⟩ := hI
    refine w_ltT (by omega) ?_
    refine w_q1 (fun m v => v = (m : Int) ∧ ∀ y, y < m → 2 * g (5 * k + y) ≤ f k + f y) k 0 ⟨rfl, fa_0⟩ (by omega) (by omega) (fun m hm v hI ny hy => ?_) (fun v hI ny => ?_)
    · obtain ⟨rfl, t2⟩ := hI
      have f1 := hf k hk
      have f2 := hf m (by omega)
      have i1 : ((a : Int) + (k : Int)) = ((a + k : Nat) : Int) := by omega
      have i2 : ((a : Int) + (m : Int)) = ((a + m : Nat) : Int) := by omega
      refine w_ltT (by omega) ?_
      rw [i1, i2]
      refine w_gi (by omega) ?_
      refine w_gi (by omega) ?_
      refine w_d tg (by omega) (fun r e l u => ?_)
      rw [ix_nat (show a + k < 2147483648 by omega), ix_nat (show a + m < 2147483648 by omega), hc k hk, hc m (by omega)]
      refine w_lt (by omega) (fun c => w_s (bI_0 (fun al => ?_))) (fun c => hy _ ⟨by omega, fa_s t2 (by omega)⟩)
      have := al k hk m (by omega) (by omega)
      omega
    · obtain ⟨rfl, t2⟩ := hI
      refine w_ltF (by omega) ?_
      exact hn _ ⟨by omega, fa_s t1 t2⟩
  · obtain ⟨rfl, t1⟩ := hI
    refine w_ltF (by omega) ?_
    refine w_s (bI_1 (fun x hx y hy ne => ?_))
    by_cases l : y < x
    · exact t1 x hx y l
    · have a := t1 y hy x (by omega)
      have b := (tg x y (by omega) (by omega)).2.2.1
      omega
theorem isTight_X9 {n a N x y : Nat} {g c f : Nat → Int} (h5 : n ≤ 5) (tg : Tb g) (hf : FR n f) (hc : ∀ x, x < n → c (a + x) = f x) (hN : a + n ≤ N ∧ N < 3000) (hx : x < n) (hy : y < n) : wp (f_X9_isTight a x y N g c) (fun r => bI r (TI g f x y)) := by
  unfold f_X9_isTight
  have f1 := hf x hx
  have f2 := hf y hy
  have i1 : ((a : Int) + (x : Int)) = ((a + x : Nat) : Int) := by omega
  have i2 : ((a : Int) + (y : Int)) = ((a + y : Nat) : Int) := by omega
  rw [i1, i2, ix_nat (show a + x < 2147483648 by omega), ix_nat (show a + y < 2147483648 by omega), hc x hx, hc y hy]
  refine w_j ?_
  refine w_eq (by omega) (fun c => ?_) (fun c => ?_)
  · refine w_gi (by omega) ?_
    have e : x = y := by omega
    subst e
    have t := (tg x x (by omega) (by omega)).2.2.2
    refine w_eq (by omega) (fun d => w_g1 (w_s (bI_1 ?_))) (fun d => w_g0 (w_s (bI_0 (fun q => ?_))))
    · unfold TI
      omega
    · unfold TI at q
      omega
  · refine w_gi (by omega) ?_
    refine w_gi (by omega) ?_
    refine w_d tg (by omega) (fun r e l u => ?_)
    refine w_eq (by omega) (fun d => w_g1 (w_s (bI_1 ?_))) (fun d => w_g0 (w_s (bI_0 (fun q => ?_))))
    · unfold TI
      omega
    · unfold TI at q
      omega
def LEAST (n : Nat) (g f : Nat → Int) : Prop := KEEP n g f ∧ ∀ x, x < n → ∃ y, y < n ∧ TI g f x y
theorem isLeast_X9 {n a N : Nat} {g c f : Nat → Int} (h5 : n ≤ 5) (tg : Tb g) (hf : FR n f) (hc : ∀ x, x < n → c (a + x) = f x) (hN : a + n ≤ N ∧ N < 3000) : wp (f_X9_isLeast a N n g c) (fun r => bI r (LEAST n g f)) := by
  unfold f_X9_isLeast
  refine w_q1 (fun k v => v = (k : Int) ∧ ∀ x, x < k → ∃ y, y < n ∧ TI g f x y) n 0 ⟨rfl, fa_0⟩ (by omega) (by omega) (fun k hk v hI nx hn => ?_) (fun v hI nx => ?_)
  · obtain ⟨rfl, t1⟩ := hI
    refine w_ltT (by omega) ?_
    refine w_q2 (fun m u v => v = (m : Int) ∧ bI u (∃ y, y < m ∧ TI g f k y)) n 0 ⟨rfl, bI_0 (fun ⟨y, q, _⟩ => absurd q (Nat.not_lt_zero _))⟩ (by omega) (by omega) (fun m hm u v hI ny hy => ?_) (fun u v hI ny => ?_)
    · obtain ⟨rfl, t2⟩ := hI
      refine w_ltT (by omega) ?_
      refine w_j ?_
      refine w_j ?_
      refine w_bI t2 (fun no _ => ?_) (fun yes _ => ?_)
      · refine w_b1 (isTight_X9 h5 tg hf hc hN hk hm) (fun r hr => ?_)
        refine w_bI hr (fun nt _ => hy _ _ ⟨by omega, bI_0 (fun ⟨y, q, p⟩ => ?_)⟩) (fun yt _ => hy _ _ ⟨by omega, bI_1 ⟨m, by omega, yt⟩⟩)
        by_cases e : y = m
        · subst e
          exact nt p
        · exact no ⟨y, by omega, p⟩
      · obtain ⟨y, q, p⟩ := yes
        exact hy _ _ ⟨by omega, bI_1 ⟨y, by omega, p⟩⟩
    · obtain ⟨rfl, t2⟩ := hI
      refine w_ltF (by omega) ?_
      exact w_bI t2 (fun no _ => w_s (bI_0 (fun q => no (q.2 k hk)))) (fun yes _ => hn _ ⟨by omega, fa_s t1 yes⟩)
  · obtain ⟨rfl, t1⟩ := hI
    refine w_ltF (by omega) ?_
    refine w_b1 (keeps_X9 h5 tg hf hc hN) (fun r hr => ?_)
    refine w_gI hr ?_
    exact w_s (bI_c hr ⟨fun q => ⟨q, t1⟩, fun q => q.1⟩)
/-- tight twos as bits -/
def MASK (n : Nat) (g f : Nat → Int) (R : Nat) : Prop := R < 2 ^ 25 ∧ ∀ x y, x < 5 → y < 5 → (bq R (5 * x + y) = 1 ↔ x < n ∧ y < n ∧ TI g f x y)
theorem tights_X7 {n : Nat} {g f : Nat → Int} (h5 : n ≤ 5) (tg : Tb g) (hf : FR n f) : wp (f_X7_tightTwos n g f) (fun r => ∃ R : Nat, r = R ∧ MASK n g f R) := by
  unfold f_X7_tightTwos
  refine w_q2 (fun k u v => v = (k : Int) ∧ ∃ R : Nat, u = R ∧ R < 2 ^ 25 ∧ ∀ x y, x < 5 → y < 5 → (bq R (5 * x + y) = 1 ↔ x < k ∧ y < n ∧ TI g f x y)) n 0 ⟨rfl, 0, rfl, by omega, fun x y _ _ => ⟨fun h => by rw [bq_z] at h; omega, fun h => absurd h.1 (Nat.not_lt_zero _)⟩⟩ (by omega) (by omega) (fun k hk u v hI nx hn => ?_) (fun u v hI nx => ?_)
  · obtain ⟨rfl, R, rfl, hR, t1⟩ := hI
    refine w_ltT (by omega) ?_
    refine w_q2 (fun m u v => v = (m : Int) ∧ ∃ R : Nat, u = R ∧ R < 2 ^ 25 ∧ ∀ x y, x < 5 → y < 5 → (bq R (5 * x + y) = 1 ↔ (x < k ∧ y < n ∧ TI g f x y) ∨ (x = k ∧ y < m ∧ TI g f x y))) n 0 ⟨rfl, R, rfl, hR, fun x y hx hy => (t1 x y hx hy).trans ⟨fun h => Or.inl h, fun h => h.resolve_right (fun q => absurd q.2.1 (Nat.not_lt_zero _))⟩⟩ (by omega) (by omega) (fun m hm u v hI ny hy => ?_) (fun u v hI ny => ?_)
    · obtain ⟨rfl, R, rfl, hR, t2⟩ := hI
      have f1 := hf k hk
      have f2 := hf m hm
      refine w_ltT (by omega) ?_
      refine w_gi (by omega) ?_
      refine w_gi (by omega) ?_
      refine w_gap tg (by omega) (fun r e l u => ?_)
      rw [ix_nat (show k < 2147483648 by omega), ix_nat (show m < 2147483648 by omega)]
      refine w_j ?_
      refine w_eq (by omega) (fun c => ?_) (fun c => ?_)
      · have ti : TI g f k m := by
          unfold TI
          omega
        refine w_lz ?_
        have l1 : 1 <<< (5 * k + m) < 2 ^ 25 := one_lt (by omega)
        rw [show (5 * (k : Int) + (m : Int)) = ((5 * k + m : Nat) : Int) by omega, one_shl (by omega), or_nat (by omega) (by omega)]
        refine hy _ _ ⟨by omega, _, rfl, Nat.or_lt_two_pow hR l1, fun x y hx hy => ?_⟩
        rw [bq_or, bq_one, t2 x y hx hy]
        constructor
        · rintro ((h | h) | h)
          · exact Or.inl h
          · exact Or.inr ⟨h.1, by omega, h.2.2⟩
          · have ex : x = k := by omega
            have ey : y = m := by omega
            subst ex ey
            exact Or.inr ⟨rfl, by omega, ti⟩
        · rintro (h | h)
          · exact Or.inl (Or.inl h)
          · by_cases ey : y = m
            · exact Or.inr (by omega)
            · exact Or.inl (Or.inr ⟨h.1, by omega, h.2.2⟩)
      · refine hy _ _ ⟨by omega, R, rfl, hR, fun x y hx hy => ?_⟩
        rw [t2 x y hx hy]
        constructor
        · rintro (h | h)
          · exact Or.inl h
          · exact Or.inr ⟨h.1, by omega, h.2.2⟩
        · rintro (h | h)
          · exact Or.inl h
          · refine Or.inr ⟨h.1, ?_, h.2.2⟩
            by_cases ey : y = m
            · subst ey
              obtain ⟨rfl, h2, h3⟩ := h
              unfold TI at h3
              omega
            · omega
    · obtain ⟨rfl, R, rfl, hR, t2⟩ := hI
      refine w_ltF (by omega) ?_
      refine hn _ _ ⟨by omega, R, rfl, hR, fun x y hx hy => ?_⟩
      rw [t2 x y hx hy]
      constructor
      · rintro (h | h)
        · exact ⟨by omega, h.2⟩
        · exact ⟨by omega, h.2⟩
      · intro h
        by_cases e : x = k
        · exact Or.inr ⟨e, h.2⟩
        · exact Or.inl ⟨by omega, h.2⟩
  · obtain ⟨rfl, R, rfl, hR, t1⟩ := hI
    refine w_ltF (by omega) ?_
    exact w_s ⟨R, rfl, hR, fun x y hx hy => t1 x y hx hy⟩
theorem partners_X7 {R x : Nat} (hR : R < 2 ^ 25) (hx : x < 5) : ∃ P : Nat, f_X7_partners R x = some (P : Int) ∧ P < 32 ∧ ∀ y, bq P y = 1 ↔ y < 5 ∧ bq R (5 * x + y) = 1 := by
  have l : R >>> (5 * x) ≤ R := Nat.shiftRight_le R _
  have l2 : (R >>> (5 * x)) &&& 31 ≤ 31 := Nat.and_le_right
  refine ⟨(R >>> (5 * x)) &&& 31, ?_, by omega, fun y => ?_⟩
  · unfold f_X7_partners
    rw [show (5 * (x : Int)) = ((5 * x : Nat) : Int) by omega, shr_nat (by omega) (by omega), show (31 : Int) = ((31 : Nat) : Int) from rfl, and_nat (by omega) (by omega)]
  · rw [bq_and, bq_31, bq_shr]
    exact And.comm
theorem joins_X7 {R x y : Nat} (hR : R < 2 ^ 25) (hx : x < 5) (hy : y < 5) : wp (f_X7_joins R x y) (fun r => bI r (bq R (5 * x + y) = 1)) := by
  unfold f_X7_joins
  obtain ⟨P, e1, e2, e3⟩ := partners_X7 hR hx
  refine w_b1s e1 ?_
  refine w_j ?_
  rw [bit_at (by omega) (by omega)]
  have b := bq_c P y
  refine w_eq (by omega) (fun c => w_g1 (w_s (bI_1 ((e3 y).mp (by omega)).2))) (fun c => w_g0 (w_s (bI_0 (fun q => c ?_))))
  have := (e3 y).mpr ⟨hy, q⟩
  omega
theorem some_bit : ∀ P : Fin 32, P.val ≠ 0 → ∃ y : Fin 5, bq P.val y.val = 1 := by decide +kernel
theorem cover_X7 {n R : Nat} (h5 : n ≤ 5) (hR : R < 2 ^ 25) : wp (f_X7_coverAll n R) (fun r => bI r (∀ x, x < n → ∃ y, y < 5 ∧ bq R (5 * x + y) = 1)) := by
  unfold f_X7_coverAll
  refine w_q1 (fun k v => v = (k : Int) ∧ ∀ x, x < k → ∃ y, y < 5 ∧ bq R (5 * x + y) = 1) n 0 ⟨rfl, fa_0⟩ (by omega) (by omega) (fun k hk v hI nx hn => ?_) (fun v hI nx => ?_)
  · obtain ⟨rfl, t1⟩ := hI
    refine w_ltT (by omega) ?_
    obtain ⟨P, e1, e2, e3⟩ := partners_X7 hR (show k < 5 by omega)
    refine w_b1s e1 ?_
    refine w_eq (by omega) (fun c => w_s (bI_0 (fun al => ?_))) (fun c => ?_)
    · obtain ⟨y, h1, h2⟩ := al k hk
      have := (e3 y).mpr ⟨h1, h2⟩
      have p0 : P = 0 := by omega
      rw [p0, bq_z] at this
      omega
    · obtain ⟨y, hy⟩ := some_bit ⟨P, e2⟩ (by show P ≠ 0; omega)
      exact hn _ ⟨by omega, fa_s t1 ⟨y.val, ((e3 y.val).mp hy)⟩⟩
  · obtain ⟨rfl, t1⟩ := hI
    refine w_ltF (by omega) ?_
    exact w_s (bI_1 t1)
theorem least_X7 {n : Nat} {g f : Nat → Int} (h5 : n ≤ 5) (tg : Tb g) (hf : FR n f) : wp (f_X7_areLeast n g f) (fun r => bI r (LEAST n g f)) := by
  unfold f_X7_areLeast
  refine w_b1 (keep_X7 h5 tg hf) (fun r hr => ?_)
  refine w_j ?_
  refine w_j ?_
  refine w_bI hr (fun no _ => w_g0 (w_s (bI_0 (fun q => no q.1)))) (fun yes _ => ?_)
  refine w_b1 (tights_X7 h5 tg hf) (fun r2 hr2 => ?_)
  obtain ⟨R, rfl, hR, hM⟩ := hr2
  refine w_b1 (cover_X7 h5 hR) (fun r3 hr3 => ?_)
  have e : (∀ x, x < n → ∃ y, y < 5 ∧ bq R (5 * x + y) = 1) ↔ ∀ x, x < n → ∃ y, y < n ∧ TI g f x y := by
    constructor
    · intro h x hx
      obtain ⟨y, y1, y2⟩ := h x hx
      exact ⟨y, ((hM x y (by omega) y1).mp y2).2⟩
    · intro h x hx
      obtain ⟨y, y1, y2⟩ := h x hx
      exact ⟨y, by omega, (hM x y (by omega) (by omega)).mpr ⟨hx, y1, y2⟩⟩
  exact w_bI hr3 (fun no _ => w_g0 (w_s (bI_0 (fun q => no (e.mpr q.2))))) (fun y2 _ => w_g1 (w_s (bI_1 ⟨yes, e.mp y2⟩)))
