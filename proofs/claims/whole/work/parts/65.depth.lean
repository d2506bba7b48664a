/-! PURE PART: depth; functionOf -/
def TT (n : Nat) (g f : Nat → Int) (x y : Nat) : Prop := x < n ∧ y < n ∧ TI g f x y
theorem TT_sym {n : Nat} {g f : Nat → Int} (h5 : n ≤ 5) (tg : Tb g) {x y : Nat} (h : TT n g f x y) : TT n g f y x := by
  obtain ⟨h1, h2, h3⟩ := h
  refine ⟨h2, h1, ?_⟩
  have := (tg x y (by omega) (by omega)).2.2.1
  unfold TI at *
  omega
def b55 (E O : Nat) (e x : Nat) : Prop := (e = 0 ∧ bq E x = 1) ∨ (e = 1 ∧ bq O x = 1)
theorem bq_sh1 {E y z x : Nat} : bq ((bq E y) <<< z) x = 1 ↔ bq E y = 1 ∧ x = z := by
  rcases bq_c E y with c | c
  · rw [c, Nat.zero_shiftLeft, bq_z]
    omega
  · rw [c, bq_one]
    omega
theorem sh1_lt {E y z : Nat} (hz : z < 5) : (bq E y) <<< z < 2 ^ 5 := by
  rcases bq_c E y with c | c
  · rw [c, Nat.zero_shiftLeft]
    omega
  · rw [c]
    exact one_lt hz
theorem reached_X9 {n a N s : Nat} {p : Int} {g c f : Nat → Int} (h5 : n ≤ 5) (tg : Tb g) (hf : FR n f) (hc : ∀ x, x < n → c (a + x) = f x) (hN : a + n ≤ N ∧ N < 3000) (hs : s < n) (hp : p = 0 ∨ p = 1) : wp (f_X9_reached a s p N n g c) (fun r => ∃ w : Nat, r = w ∧ w < 32 ∧ ∀ x, x < 5 → (bq w x = 1 ↔ RC (TT n g f) s p.toNat x)) := by
  have t5 : T5 (TT n g f) := fun y z h => ⟨by have := h.1; omega, by have := h.2.1; omega⟩
  unfold f_X9_reached
  rw [one_shl (by omega)]
  refine w_lz ?_
  refine w_q3 (fun r u o v => v = (r : Int) ∧ ∃ E O : Nat, u = E ∧ o = O ∧ E < 2 ^ 5 ∧ O < 2 ^ 5 ∧ WB (TT n g f) s (b55 E O) ∧ WC (TT n g f) s r (b55 E O)) 10 0 ⟨rfl, _, 0, rfl, rfl, one_lt (by omega), by omega, fun e x hx hb => ?_, fun e x hb => ?_⟩ (by omega) (by omega) (fun r hr u o v hI nx hn => ?_) (fun u o v hI nx => ?_)
  · rcases hb with ⟨rfl, q⟩ | ⟨rfl, q⟩
    · exact ⟨0, rfl, (bq_one s x).mp q⟩
    · rw [bq_z] at q
      omega
  · obtain ⟨k, k1, k2, k3⟩ := hb
    have : k = 0 := by omega
    subst this
    have ex : x = s := k3
    exact Or.inl ⟨by omega, (bq_one s x).mpr ex⟩
  · obtain ⟨rfl, E, O, rfl, rfl, hE, hO, t1, t2⟩ := hI
    refine w_ltT (by omega) ?_
    refine w_q3 (fun m u o v => v = (m : Int) ∧ ∃ E O : Nat, u = E ∧ o = O ∧ E < 2 ^ 5 ∧ O < 2 ^ 5 ∧ WB (TT n g f) s (b55 E O) ∧ WC (TT n g f) s r (b55 E O) ∧ ∀ y z e, y < m → RB (TT n g f) s r e y → TT n g f y z → e < 2 → b55 E O (1 - e) z) n 0 ⟨rfl, E, O, rfl, rfl, hE, hO, t1, t2, fun y z e hy => absurd hy (Nat.not_lt_zero _)⟩ (by omega) (by omega) (fun m hm u o v hI ny hy => ?_) (fun u o v hI ny => ?_)
    · obtain ⟨rfl, E, O, rfl, rfl, hE, hO, u1, u2, u3⟩ := hI
      refine w_ltT (by omega) ?_
      refine w_q3 (fun l u o v => v = (l : Int) ∧ ∃ E O : Nat, u = E ∧ o = O ∧ E < 2 ^ 5 ∧ O < 2 ^ 5 ∧ WB (TT n g f) s (b55 E O) ∧ WC (TT n g f) s r (b55 E O) ∧ (∀ y z e, y < m → RB (TT n g f) s r e y → TT n g f y z → e < 2 → b55 E O (1 - e) z) ∧ ∀ z e, z < l → RB (TT n g f) s r e m → TT n g f m z → e < 2 → b55 E O (1 - e) z) n 0 ⟨rfl, E, O, rfl, rfl, hE, hO, u1, u2, u3, fun z e hz => absurd hz (Nat.not_lt_zero _)⟩ (by omega) (by omega) (fun l hl u o v hI nz hz => ?_) (fun u o v hI nz => ?_)
      · obtain ⟨rfl, E, O, rfl, rfl, hE, hO, v1, v2, v3, v4⟩ := hI
        refine w_ltT (by omega) ?_
        refine w_b1 (isTight_X9 h5 tg hf hc hN hm hl) (fun q hq => ?_)
        refine w_j ?_
        refine w_bI hq (fun no _ => ?_) (fun yes _ => ?_)
        · refine hz _ _ _ ⟨by omega, E, O, rfl, rfl, hE, hO, v1, v2, v3, fun z e hzl hb ht he => ?_⟩
          by_cases zl : z = l
          · subst zl
            exact absurd ht.2.2 no
          · exact v4 z e (by omega) hb ht he
        · have tt : TT n g f m l := ⟨hm, hl, yes⟩
          have s1 := sh1_lt (E := E) (y := m) (show l < 5 by omega)
          have o1 := Nat.or_lt_two_pow hO s1
          refine w_l (fun x1 e1 => ?_)
          rw [bit_at (by omega) (by omega), shl_nat (by have := bq_c E m; omega) (by omega) (by omega), or_nat (by omega) (by omega)] at e1
          subst e1
          have s2 := sh1_lt (E := O ||| (bq E m) <<< l) (y := m) (show l < 5 by omega)
          refine w_l (fun x2 e2 => ?_)
          rw [bit_at (by omega) (by omega), shl_nat (by have := bq_c (O ||| (bq E m) <<< l) m; omega) (by omega) (by omega), or_nat (by omega) (by omega)] at e2
          subst e2
          have up1 : ∀ e x, b55 E O e x → b55 (E ||| (bq (O ||| (bq E m) <<< l) m) <<< l) (O ||| (bq E m) <<< l) e x := by
            intro e x hb
            rcases hb with ⟨rfl, q⟩ | ⟨rfl, q⟩
            · exact Or.inl ⟨rfl, (bq_or _ _ _).mpr (Or.inl q)⟩
            · exact Or.inr ⟨rfl, (bq_or _ _ _).mpr (Or.inl q)⟩
          have so : ∀ x, x < 5 → bq (O ||| (bq E m) <<< l) x = 1 → RC (TT n g f) s 1 x := by
            intro x hx q
            rcases (bq_or _ _ _).mp q with q | q
            · exact v1 1 x hx (Or.inr ⟨rfl, q⟩)
            · obtain ⟨q1, rfl⟩ := bq_sh1.mp q
              exact RC_T (v1 0 m (by omega) (Or.inl ⟨rfl, q1⟩)) tt
          refine hz _ _ _ ⟨by omega, _, _, rfl, rfl, Nat.or_lt_two_pow hE s2, o1, fun e x hx hb => ?_, fun e x hb => up1 e x (v2 e x hb), fun y z e a b c d => up1 _ _ (v3 y z e a b c d), fun z e hzl hb ht he => ?_⟩
          · rcases hb with ⟨rfl, q⟩ | ⟨rfl, q⟩
            · rcases (bq_or _ _ _).mp q with q | q
              · exact v1 0 x hx (Or.inl ⟨rfl, q⟩)
              · obtain ⟨q1, rfl⟩ := bq_sh1.mp q
                exact RC_T (so m (by omega) q1) tt
            · exact so x hx q
          · by_cases zl : z = l
            · subst zl
              rcases v2 e m hb with ⟨rfl, q⟩ | ⟨rfl, q⟩
              · exact Or.inr ⟨rfl, (bq_or _ _ _).mpr (Or.inr (bq_sh1.mpr ⟨q, rfl⟩))⟩
              · exact Or.inl ⟨rfl, (bq_or _ _ _).mpr (Or.inr (bq_sh1.mpr ⟨(bq_or _ _ _).mpr (Or.inl q), rfl⟩))⟩
            · exact up1 _ _ (v4 z e (by omega) hb ht he)
      · obtain ⟨rfl, E, O, rfl, rfl, hE, hO, v1, v2, v3, v4⟩ := hI
        refine w_ltF (by omega) ?_
        refine hy _ _ _ ⟨by omega, E, O, rfl, rfl, hE, hO, v1, v2, fun y z e hym hb ht he => ?_⟩
        by_cases ym : y = m
        · subst ym
          exact v4 z e ht.2.1 hb ht he
        · exact v3 y z e (by omega) hb ht he
    · obtain ⟨rfl, E, O, rfl, rfl, hE, hO, u1, u2, u3⟩ := hI
      refine w_ltF (by omega) ?_
      refine hn _ _ _ ⟨by omega, E, O, rfl, rfl, hE, hO, u1, fun e x hb => ?_⟩
      rcases RB_s hb with q | ⟨e2, y, q1, q2⟩
      · exact u2 e x q
      · have := u3 y x (1 - e) q2.1 q1 q2 (by omega)
        rw [show 1 - (1 - e) = e by omega] at this
        exact this
  · obtain ⟨rfl, E, O, rfl, rfl, hE, hO, t1, t2⟩ := hI
    refine w_ltF (by omega) ?_
    refine w_j ?_
    rcases hp with rfl | rfl
    · refine w_eqF (by omega) ?_
      refine w_s ⟨E, rfl, by omega, fun x hx => ⟨fun h => t1 0 x hx (Or.inl ⟨rfl, h⟩), fun h => ?_⟩⟩
      rcases t2 0 x (RB_all t5 (by omega) h) with q | q
      · exact q.2
      · omega
    · refine w_eqT rfl ?_
      refine w_s ⟨O, rfl, by omega, fun x hx => ⟨fun h => t1 1 x hx (Or.inr ⟨rfl, h⟩), fun h => ?_⟩⟩
      rcases t2 1 x (RB_all t5 (by omega) h) with q | q
      · omega
      · exact q.2
def LOT (T : Nat → Nat → Prop) (x y : Nat) : Prop := ∃ k, WK T x k y
theorem LOT_RC {T : Nat → Nat → Prop} {x y : Nat} : LOT T x y ↔ RC T x 0 y ∨ RC T x 1 y := by
  constructor
  · rintro ⟨k, h⟩
    by_cases c : k % 2 = 0
    · exact Or.inl ⟨k, c, h⟩
    · exact Or.inr ⟨k, by omega, h⟩
  · rintro (⟨k, _, h⟩ | ⟨k, _, h⟩)
    · exact ⟨k, h⟩
    · exact ⟨k, h⟩
/-- a lot's least point, and no odd round -/
def evenLot (T : Nat → Nat → Prop) (x : Nat) : Prop := (∀ y, y < x → ¬ LOT T x y) ∧ ¬ RC T x 1 x
theorem bq_low (x y : Nat) : bq (1 <<< x - 1) y = 1 ↔ y < x := by
  rw [bq_t, Nat.one_shiftLeft, Nat.testBit_two_pow_sub_one]
  exact decide_eq_true_iff
theorem depth_X7 {n R : Nat} {T : Nat → Nat → Prop} (h5 : n ≤ 5) (hR : R < 2 ^ 25) (hT : ∀ x y, x < 5 → y < 5 → (bq R (5 * x + y) = 1 ↔ T x y)) (tn : ∀ x y, T x y → x < n ∧ y < n) : wp (f_X7_depth n R) (fun r => r = sm (fun x => ind (evenLot T x)) n) := by
  have t5 : T5 T := fun y z h => ⟨by have := tn y z h; omega, by have := tn y z h; omega⟩
  unfold f_X7_depth
  refine w_q2 (fun k u v => v = (k : Int) ∧ u = sm (fun x => ind (evenLot T x)) k) n 0 ⟨rfl, rfl⟩ (by omega) (by omega) (fun k hk u v hI nx hn => ?_) (fun u v hI nx => ?_)
  · obtain ⟨rfl, t1⟩ := hI
    refine w_ltT (by omega) ?_
    refine w_b1 (walks_X7 h5 hR hT tn hk) (fun r hr => ?_)
    obtain ⟨w, rfl, hw, hb⟩ := hr
    have l1 : w >>> 5 ≤ w := Nat.shiftRight_le w 5
    have l2 : w ||| w >>> 5 < 2 ^ 10 := Nat.or_lt_two_pow (by omega) (by omega)
    have l3 : (w ||| w >>> 5) &&& 31 ≤ 31 := Nat.and_le_right
    refine w_l (fun x1 e1 => ?_)
    rw [show (5 : Int) = ((5 : Nat) : Int) from rfl, shr_nat (by omega) (by omega), or_nat (by omega) (by omega), show (31 : Int) = ((31 : Nat) : Int) from rfl, and_nat (by omega) (by omega)] at e1
    subst e1
    have lot : ∀ y, bq ((w ||| w >>> 5) &&& 31) y = 1 ↔ y < 5 ∧ LOT T k y := by
      intro y
      rw [bq_and, bq_or, bq_shr, bq_31, LOT_RC]
      constructor
      · rintro ⟨h, y5⟩
        refine ⟨y5, ?_⟩
        rcases h with h | h
        · exact Or.inl ((hb 0 y (by omega) y5).mp (by rw [show 5 * 0 + y = y by omega]; exact h))
        · exact Or.inr ((hb 1 y (by omega) y5).mp h)
      · rintro ⟨y5, h⟩
        refine ⟨?_, y5⟩
        rcases h with h | h
        · have := (hb 0 y (by omega) y5).mpr h
          rw [show 5 * 0 + y = y by omega] at this
          exact Or.inl this
        · exact Or.inr ((hb 1 y (by omega) y5).mpr h)
    have p1 : 1 <<< k < 2 ^ 5 := one_lt (by omega)
    have p2 : 1 ≤ 1 <<< k := by
      rw [Nat.one_shiftLeft]
      exact Nat.one_le_two_pow
    have la : ((w ||| w >>> 5) &&& 31) &&& (1 <<< k - 1) ≤ 31 := Nat.le_trans Nat.and_le_left l3
    have least : ((w ||| w >>> 5) &&& 31) &&& (1 <<< k - 1) = 0 ↔ ∀ y, y < k → ¬ LOT T k y := by
      constructor
      · intro h y hy q
        have : bq (((w ||| w >>> 5) &&& 31) &&& (1 <<< k - 1)) y = 1 := (bq_and _ _ _).mpr ⟨(lot y).mpr ⟨by omega, q⟩, (bq_low k y).mpr hy⟩
        rw [h, bq_z] at this
        omega
      · intro h
        refine bq_ext (fun y => ?_)
        rw [bq_and, lot, bq_low, bq_z]
        constructor
        · rintro ⟨⟨_, q⟩, hy⟩
          exact absurd q (h y hy)
        · omega
    refine w_j ?_
    refine w_j ?_
    have ss := sm_s (fun x => ind (evenLot T x)) k
    have odd := hb 1 k (by omega) (by omega)
    have bo := bq_c w (5 + k)
    have yes : evenLot T k → wp (nx (u + 1) ((k : Int) + 1)) (fun r => r = sm (fun x => ind (evenLot T x)) n) := fun q => hn _ _ ⟨by omega, by rw [ss, ind_t q, t1]⟩
    have no : ¬ evenLot T k → wp (nx (u + 0) ((k : Int) + 1)) (fun r => r = sm (fun x => ind (evenLot T x)) n) := fun q => hn _ _ ⟨by omega, by rw [ss, ind_f q, t1]⟩
    have e3 : ((1 <<< k : Nat) : Int) - (1 : Int) = ((1 <<< k - 1 : Nat) : Int) := by omega
    rw [show (5 : Int) + (k : Int) = ((5 + k : Nat) : Int) by omega, bit_at (by omega) (by omega), one_shl (by omega), e3, and_nat (by omega) (by omega)]
    refine w_eq (by omega) (fun c => ?_) (fun c => ?_)
    · have lst := least.mp (by omega)
      refine w_j ?_
      refine w_eq (by omega) (fun c2 => ?_) (fun c2 => ?_)
      · refine w_j ?_
        refine w_j ?_
        refine w_eqF (by omega) ?_
        refine w_eqF (by omega) ?_
        refine w_lz ?_
        exact no (fun q => q.2 (odd.mp (by rw [show 5 * 1 + k = 5 + k by omega]; omega)))
      · refine w_j ?_
        refine w_j ?_
        refine w_eqF (by omega) ?_
        refine w_eqT rfl ?_
        refine w_lz ?_
        refine yes ⟨lst, fun q => c2 ?_⟩
        have := odd.mpr q
        rw [show 5 * 1 + k = 5 + k by omega] at this
        omega
    · have nl : ¬ ∀ y, y < k → ¬ LOT T k y := fun q => c (by have := least.mpr q; omega)
      refine w_j ?_
      refine w_eq (by omega) (fun c2 => ?_) (fun c2 => ?_)
      · refine w_j ?_
        refine w_j ?_
        refine w_eqT rfl ?_
        refine w_lz ?_
        exact no (fun q => nl q.1)
      · refine w_j ?_
        refine w_j ?_
        refine w_eqT rfl ?_
        refine w_lz ?_
        exact no (fun q => nl q.1)
  · obtain ⟨rfl, t1⟩ := hI
    refine w_ltF (by omega) ?_
    exact w_s t1
theorem depth_X9 {n a N : Nat} {g c f : Nat → Int} (h5 : n ≤ 5) (tg : Tb g) (hf : FR n f) (hc : ∀ x, x < n → c (a + x) = f x) (hN : a + n ≤ N ∧ N < 3000) : wp (f_X9_depth a N n g c) (fun r => r = sm (fun x => ind (evenLot (TT n g f) x)) n) := by
  have sy : ∀ x y, TT n g f x y → TT n g f y x := fun x y h => TT_sym h5 tg h
  have t5 : T5 (TT n g f) := fun y z h => ⟨by have := h.1; omega, by have := h.2.1; omega⟩
  unfold f_X9_depth
  refine w_q4 (fun k lots odd met v => v = (k : Int) ∧ lots - odd = sm (fun x => ind (evenLot (TT n g f) x)) k ∧ ∃ M : Nat, met = M ∧ M < 2 ^ 5 ∧ ∀ z, z < 5 → (bq M z = 1 ↔ ∃ y, y < k ∧ LOT (TT n g f) y z)) n 0 ⟨rfl, rfl, 0, rfl, by omega, fun z hz => ⟨fun h => by rw [bq_z] at h; omega, fun ⟨y, h, _⟩ => absurd h (Nat.not_lt_zero _)⟩⟩ (by omega) (by omega) (fun k hk lots odd met v hI nx hn => ?_) (fun lots odd met v hI nx => ?_)
  · obtain ⟨rfl, t1, M, rfl, hM, t2⟩ := hI
    refine w_ltT (by omega) ?_
    refine w_j ?_
    rw [bit_at (by omega) (by omega)]
    have bm := bq_c M k
    have ss := sm_s (fun x => ind (evenLot (TT n g f) x)) k
    have self : LOT (TT n g f) k k := ⟨0, rfl⟩
    refine w_eq (by omega) (fun c => ?_) (fun c => ?_)
    · obtain ⟨y, y1, k1, y2⟩ := (t2 k (by omega)).mp (by omega)
      have ne : ¬ evenLot (TT n g f) k := fun q => q.1 y y1 ⟨k1, WK_rev sy k1 k y2⟩
      refine hn _ _ _ _ ⟨by omega, by rw [ss, ind_f ne]; omega, M, rfl, hM, fun z hz => (t2 z hz).trans ⟨fun ⟨w, w1, w2⟩ => ⟨w, by omega, w2⟩, fun ⟨w, w1, w2⟩ => ?_⟩⟩
      by_cases e : w = k
      · subst e
        obtain ⟨m, hm⟩ := w2
        exact ⟨y, y1, k1 + m, WK_tr y2 m z hm⟩
      · exact ⟨w, by omega, w2⟩
    · have lst : ∀ y, y < k → ¬ LOT (TT n g f) k y := by
        intro y hy ⟨m, hm⟩
        have := (t2 k (by omega)).mpr ⟨y, hy, m, WK_rev sy m y hm⟩
        omega
      refine w_b1 (reached_X9 h5 tg hf hc hN hk (Or.inl rfl)) (fun r1 hr1 => ?_)
      obtain ⟨w1, rfl, hw1, hb1⟩ := hr1
      refine w_b1 (reached_X9 h5 tg hf hc hN hk (Or.inr rfl)) (fun r2 hr2 => ?_)
      obtain ⟨w2, rfl, hw2, hb2⟩ := hr2
      have l1 : w1 ||| w2 < 2 ^ 5 := Nat.or_lt_two_pow (by omega) (by omega)
      have l2 : M ||| (w1 ||| w2) < 2 ^ 5 := Nat.or_lt_two_pow hM l1
      refine w_l (fun x1 e1 => ?_)
      rw [or_nat (a := w1) (by omega) (by omega), or_nat (by omega) (by omega)] at e1
      subst e1
      have met' : ∀ z, z < 5 → (bq (M ||| (w1 ||| w2)) z = 1 ↔ ∃ y, y < k + 1 ∧ LOT (TT n g f) y z) := by
        intro z hz
        rw [bq_or, bq_or, t2 z hz, hb1 z hz, hb2 z hz]
        constructor
        · rintro (⟨y, y1, y2⟩ | h)
          · exact ⟨y, by omega, y2⟩
          · exact ⟨k, by omega, LOT_RC.mpr h⟩
        · rintro ⟨y, y1, y2⟩
          by_cases e : y = k
          · subst e
            exact Or.inr (LOT_RC.mp y2)
          · exact Or.inl ⟨y, by omega, y2⟩
      refine w_j ?_
      rw [bit_at (by omega) (by omega)]
      have b2 := bq_c w2 k
      have ob := hb2 k (by omega)
      refine w_eq (by omega) (fun c2 => ?_) (fun c2 => ?_)
      · refine w_lz ?_
        have ne : ¬ evenLot (TT n g f) k := fun q => q.2 (ob.mp (by omega))
        exact hn _ _ _ _ ⟨by omega, by rw [ss, ind_f ne]; omega, _, rfl, l2, met'⟩
      · refine w_lz ?_
        have ne : evenLot (TT n g f) k := ⟨lst, fun q => c2 (by have := ob.mpr q; omega)⟩
        exact hn _ _ _ _ ⟨by omega, by rw [ss, ind_t ne]; omega, _, rfl, l2, met'⟩
  · obtain ⟨rfl, t1, t2⟩ := hI
    refine w_ltF (by omega) ?_
    exact w_s t1
