/-! PURE PART: orders; keepers alike -/
def INJ (n : Nat) (s : Nat → Nat) : Prop := ∀ x, x < n → ∀ b, b < x → s b ≠ s x
def mskN (s : Nat → Nat) : Nat → Nat
  | 0 => 0
  | k + 1 => mskN s k ||| 1 <<< s k
theorem msk_bit (s : Nat → Nat) (z : Nat) : ∀ k, bq (mskN s k) z = 1 ↔ ∃ i, i < k ∧ s i = z
  | 0 => ⟨fun h => by rw [show mskN s 0 = 0 from rfl, bq_z] at h; omega, fun ⟨i, h, _⟩ => absurd h (Nat.not_lt_zero _)⟩
  | k + 1 => by
    show bq (mskN s k ||| 1 <<< s k) z = 1 ↔ _
    rw [bq_or, bq_one, msk_bit s z k]
    constructor
    · rintro (⟨i, h1, h2⟩ | h)
      · exact ⟨i, by omega, h2⟩
      · exact ⟨k, by omega, h.symm⟩
    · rintro ⟨i, h1, h2⟩
      by_cases e : i = k
      · rw [e] at h2
        exact Or.inr h2.symm
      · exact Or.inl ⟨i, by omega, h2⟩
theorem msk_lt {n : Nat} {s : Nat → Nat} (hs : ∀ x, x < n → s x < n) : ∀ k, k ≤ n → mskN s k < 2 ^ n
  | 0, _ => Nat.pow_pos (by omega)
  | k + 1, h => Nat.or_lt_two_pow (msk_lt hs k (by omega)) (one_lt (hs k (by omega)))
theorem sur3 : ∀ a b c : Fin 3, (∀ z : Fin 3, a = z ∨ b = z ∨ c = z) ↔ (a ≠ b ∧ a ≠ c ∧ b ≠ c) := by decide +kernel
theorem sur4 : ∀ a b c d : Fin 4, (∀ z : Fin 4, a = z ∨ b = z ∨ c = z ∨ d = z) ↔ (a ≠ b ∧ a ≠ c ∧ b ≠ c ∧ a ≠ d ∧ b ≠ d ∧ c ≠ d) := by decide +kernel
theorem sur5 : ∀ a b c d e : Fin 5, (∀ z : Fin 5, a = z ∨ b = z ∨ c = z ∨ d = z ∨ e = z) ↔ (a ≠ b ∧ a ≠ c ∧ b ≠ c ∧ a ≠ d ∧ b ≠ d ∧ c ≠ d ∧ a ≠ e ∧ b ≠ e ∧ c ≠ e ∧ d ≠ e) := by decide +kernel
theorem fin_ne {n a b : Nat} (ha : a < n) (hb : b < n) : (⟨a, ha⟩ : Fin n) ≠ ⟨b, hb⟩ ↔ a ≠ b := ⟨fun h e => h (Fin.ext e), fun h e => h (congrArg Fin.val e)⟩
theorem sur_inj {n : Nat} {s : Nat → Nat} (h3 : 3 ≤ n) (h5 : n ≤ 5) (hs : ∀ x, x < n → s x < n) : (∀ z, z < n → ∃ i, i < n ∧ s i = z) ↔ INJ n s := by
  have hn : n = 3 ∨ n = 4 ∨ n = 5 := by omega
  unfold INJ
  rcases hn with rfl | rfl | rfl
  · have l := sur3 ⟨s 0, hs 0 (by omega)⟩ ⟨s 1, hs 1 (by omega)⟩ ⟨s 2, hs 2 (by omega)⟩
    constructor
    · intro h
      have q := l.mp (fun z => by
        obtain ⟨i, i1, i2⟩ := h z.val z.isLt
        have : i = 0 ∨ i = 1 ∨ i = 2 := by omega
        rcases this with rfl | rfl | rfl
        · exact Or.inl (Fin.ext i2)
        · exact Or.inr (Or.inl (Fin.ext i2))
        · exact Or.inr (Or.inr (Fin.ext i2)))
      simp only [fin_ne] at q
      intro x hx b hb
      have : (x = 1 ∧ b = 0) ∨ (x = 2 ∧ b = 0) ∨ (x = 2 ∧ b = 1) := by omega
      rcases this with ⟨rfl, rfl⟩ | ⟨rfl, rfl⟩ | ⟨rfl, rfl⟩ <;> omega
    · intro h z hz
      have q := l.mpr ⟨(fin_ne _ _).mpr (h 1 (by omega) 0 (by omega)), (fin_ne _ _).mpr (h 2 (by omega) 0 (by omega)), (fin_ne _ _).mpr (h 2 (by omega) 1 (by omega))⟩ ⟨z, hz⟩
      rcases q with e | e | e
      · exact ⟨0, by omega, congrArg Fin.val e⟩
      · exact ⟨1, by omega, congrArg Fin.val e⟩
      · exact ⟨2, by omega, congrArg Fin.val e⟩
  · have l := sur4 ⟨s 0, hs 0 (by omega)⟩ ⟨s 1, hs 1 (by omega)⟩ ⟨s 2, hs 2 (by omega)⟩ ⟨s 3, hs 3 (by omega)⟩
    constructor
    · intro h
      have q := l.mp (fun z => by
        obtain ⟨i, i1, i2⟩ := h z.val z.isLt
        have : i = 0 ∨ i = 1 ∨ i = 2 ∨ i = 3 := by omega
        rcases this with rfl | rfl | rfl | rfl
        · exact Or.inl (Fin.ext i2)
        · exact Or.inr (Or.inl (Fin.ext i2))
        · exact Or.inr (Or.inr (Or.inl (Fin.ext i2)))
        · exact Or.inr (Or.inr (Or.inr (Fin.ext i2))))
      simp only [fin_ne] at q
      intro x hx b hb
      have : (x = 1 ∧ b = 0) ∨ (x = 2 ∧ b = 0) ∨ (x = 2 ∧ b = 1) ∨ (x = 3 ∧ b = 0) ∨ (x = 3 ∧ b = 1) ∨ (x = 3 ∧ b = 2) := by omega
      rcases this with ⟨rfl, rfl⟩ | ⟨rfl, rfl⟩ | ⟨rfl, rfl⟩ | ⟨rfl, rfl⟩ | ⟨rfl, rfl⟩ | ⟨rfl, rfl⟩ <;> omega
    · intro h z hz
      have q := l.mpr ⟨(fin_ne _ _).mpr (h 1 (by omega) 0 (by omega)), (fin_ne _ _).mpr (h 2 (by omega) 0 (by omega)), (fin_ne _ _).mpr (h 2 (by omega) 1 (by omega)), (fin_ne _ _).mpr (h 3 (by omega) 0 (by omega)), (fin_ne _ _).mpr (h 3 (by omega) 1 (by omega)), (fin_ne _ _).mpr (h 3 (by omega) 2 (by omega))⟩ ⟨z, hz⟩
      rcases q with e | e | e | e
      · exact ⟨0, by omega, congrArg Fin.val e⟩
      · exact ⟨1, by omega, congrArg Fin.val e⟩
      · exact ⟨2, by omega, congrArg Fin.val e⟩
      · exact ⟨3, by omega, congrArg Fin.val e⟩
  · have l := sur5 ⟨s 0, hs 0 (by omega)⟩ ⟨s 1, hs 1 (by omega)⟩ ⟨s 2, hs 2 (by omega)⟩ ⟨s 3, hs 3 (by omega)⟩ ⟨s 4, hs 4 (by omega)⟩
    constructor
    · intro h
      have q := l.mp (fun z => by
        obtain ⟨i, i1, i2⟩ := h z.val z.isLt
        have : i = 0 ∨ i = 1 ∨ i = 2 ∨ i = 3 ∨ i = 4 := by omega
        rcases this with rfl | rfl | rfl | rfl | rfl
        · exact Or.inl (Fin.ext i2)
        · exact Or.inr (Or.inl (Fin.ext i2))
        · exact Or.inr (Or.inr (Or.inl (Fin.ext i2)))
        · exact Or.inr (Or.inr (Or.inr (Or.inl (Fin.ext i2))))
        · exact Or.inr (Or.inr (Or.inr (Or.inr (Fin.ext i2)))))
      simp only [fin_ne] at q
      intro x hx b hb
      have : (x = 1 ∧ b = 0) ∨ (x = 2 ∧ b = 0) ∨ (x = 2 ∧ b = 1) ∨ (x = 3 ∧ b = 0) ∨ (x = 3 ∧ b = 1) ∨ (x = 3 ∧ b = 2) ∨ (x = 4 ∧ b = 0) ∨ (x = 4 ∧ b = 1) ∨ (x = 4 ∧ b = 2) ∨ (x = 4 ∧ b = 3) := by omega
      obtain ⟨m1, m2, m3, m4, m5, m6, m7, m8, m9, m10⟩ := q
      rcases this with ⟨rfl, rfl⟩ | ⟨rfl, rfl⟩ | ⟨rfl, rfl⟩ | ⟨rfl, rfl⟩ | ⟨rfl, rfl⟩ | ⟨rfl, rfl⟩ | ⟨rfl, rfl⟩ | ⟨rfl, rfl⟩ | ⟨rfl, rfl⟩ | ⟨rfl, rfl⟩ <;> assumption
    · intro h z hz
      have q := l.mpr ⟨(fin_ne _ _).mpr (h 1 (by omega) 0 (by omega)), (fin_ne _ _).mpr (h 2 (by omega) 0 (by omega)), (fin_ne _ _).mpr (h 2 (by omega) 1 (by omega)), (fin_ne _ _).mpr (h 3 (by omega) 0 (by omega)), (fin_ne _ _).mpr (h 3 (by omega) 1 (by omega)), (fin_ne _ _).mpr (h 3 (by omega) 2 (by omega)), (fin_ne _ _).mpr (h 4 (by omega) 0 (by omega)), (fin_ne _ _).mpr (h 4 (by omega) 1 (by omega)), (fin_ne _ _).mpr (h 4 (by omega) 2 (by omega)), (fin_ne _ _).mpr (h 4 (by omega) 3 (by omega))⟩ ⟨z, hz⟩
      rcases q with e | e | e | e | e
      · exact ⟨0, by omega, congrArg Fin.val e⟩
      · exact ⟨1, by omega, congrArg Fin.val e⟩
      · exact ⟨2, by omega, congrArg Fin.val e⟩
      · exact ⟨3, by omega, congrArg Fin.val e⟩
      · exact ⟨4, by omega, congrArg Fin.val e⟩
theorem isOrder_X9 {n o : Nat} {ord : Nat → Int} (h3 : 3 ≤ n) (h5 : n ≤ 5) (ho : o < 100000) : wp (f_X9_isOrder o n ord) (fun u => bI u.1 (INJ n (nxt n o)) ∧ ∀ x, x < n → u.2 x = (nxt n o x : Int)) := by
  unfold f_X9_isOrder
  have sl : ∀ x, x < n → nxt n o x < n := fun x _ => nxt_lt (by omega)
  have t32 := two5 h5
  refine w_q4 (fun k r m v q => v = (k : Int) ∧ r = ((o / n ^ k : Nat) : Int) ∧ m = ((mskN (nxt n o) k : Nat) : Int) ∧ ∀ x, x < k → q x = (nxt n o x : Int)) n 0 ⟨rfl, by rw [Nat.pow_zero, Nat.div_one], rfl, fa_0⟩ (by omega) (by omega) (fun k hk r m v q hI nx hn => ?_) (fun r m v q hI nx => ?_)
  · obtain ⟨rfl, rfl, rfl, t1⟩ := hI
    have l : o / n ^ k ≤ o := Nat.div_le_self _ _
    have ml := msk_lt sl k (by omega)
    have dk := sl k hk
    refine w_ltT (by omega) ?_
    refine w_gn (by omega) ?_
    refine w_l (fun y ey => ?_)
    rw [rem_nat (by omega) (by omega)] at ey
    have ey' : y = ((nxt n o k : Nat) : Int) := ey
    refine w_gi (by omega) ?_
    refine w_gi (by omega) ?_
    rw [ix_nat (show k < 2147483648 by omega), up_eq, ey', one_shl (by omega), or_nat (by omega) (by have := one_lt dk; omega)]
    refine w_lz ?_
    refine w_gn (by omega) ?_
    refine w_lz ?_
    rw [div_nat (by omega) (by omega)]
    refine hn _ _ _ _ ⟨by omega, by rw [Nat.div_div_eq_div_mul, ← Nat.pow_succ], rfl, fun x hx => ?_⟩
    by_cases e : x = k
    · rw [e, up_eq]
    · rw [up_ne _ _ e]
      exact t1 x (by omega)
  · obtain ⟨rfl, rfl, rfl, t1⟩ := hI
    refine w_ltF (by omega) ?_
    refine w_j ?_
    have ml := msk_lt sl n (Nat.le_refl _)
    have p1 : 1 ≤ 1 <<< n := by
      rw [Nat.one_shiftLeft]
      exact Nat.one_le_two_pow
    have p2 : 1 <<< n ≤ 32 := by
      rw [Nat.one_shiftLeft]
      exact t32
    have e3 : ((1 <<< n : Nat) : Int) - (1 : Int) = ((1 <<< n - 1 : Nat) : Int) := by omega
    have eq : mskN (nxt n o) n = 1 <<< n - 1 ↔ INJ n (nxt n o) := by
      rw [← sur_inj h3 h5 sl]
      constructor
      · intro h z hz
        exact (msk_bit _ z n).mp (by rw [h]; exact (bq_low n z).mpr hz)
      · intro h
        refine bq_ext (fun z => ?_)
        rw [msk_bit, bq_low]
        exact ⟨fun ⟨i, i1, i2⟩ => by rw [← i2]; exact sl i i1, fun hz => h z hz⟩
    rw [one_shl (by omega), e3]
    refine w_eq (by omega) (fun c => ?_) (fun c => ?_)
    · exact w_g1 (w_s ⟨bI_1 (eq.mp (by omega)), t1⟩)
    · exact w_g0 (w_s ⟨bI_0 (fun q => c (by rw [eq.mpr q])), t1⟩)
theorem keepers_X9 {n : Nat} {g ord : Nat → Int} (h3 : 3 ≤ n) (h5 : n ≤ 5) (tg : Tb g) : wp (f_X9_keepers n g ord) (fun u => u.1 = sm (fun o => ind (ALLk n g (nxt n o))) (n ^ n)) := by
  unfold f_X9_keepers
  have lim := nn_le h5
  refine w_q3 (fun o u v q => v = (o : Int) ∧ u = sm (fun o => ind (ALLk n g (nxt n o))) o) (n ^ n) 0 ⟨rfl, rfl⟩ (by omega) (by omega) (fun o ho u v q hI nx hn => ?_) (fun u v q hI nx => ?_)
  · obtain ⟨rfl, t1⟩ := hI
    have sl : ∀ x, x < n → nxt n o x < n := fun x _ => nxt_lt (by omega)
    have ss := sm_s (fun o => ind (ALLk n g (nxt n o))) o
    refine w_b1s (orders_X9 h3 h5) ?_
    refine w_ltT (by omega) ?_
    refine w_b2 (isOrder_X9 h3 h5 (by omega)) (fun b w hb => ?_)
    obtain ⟨b1, b2⟩ := hb
    have b1' : bI b (INJ n (nxt n o)) := b1
    have b2' : ∀ x, x < n → w x = (nxt n o x : Int) := b2
    have fin : ∀ z : Int, bI z (ALLk n g (nxt n o)) → wp (jn (fun (s1_105 : Int) => lv ((u + s1_105)) (fun x106 => nx x106 ((o : Int) + 1) w)) (fun (k105 : Int → Option (Int × (Nat → Int))) => if eqI z 0 = true then (k105 0) else (k105 1))) (fun u => u.1 = sm (fun o => ind (ALLk n g (nxt n o))) (n ^ n)) := by
      intro z hz
      refine w_j ?_
      refine w_bI hz (fun no _ => ?_) (fun yes _ => ?_)
      · refine w_lz ?_
        exact hn _ _ _ ⟨by omega, by rw [ss, ind_f no, t1]⟩
      · refine w_lz ?_
        exact hn _ _ _ ⟨by omega, by rw [ss, ind_t yes, t1]⟩
    refine w_q2 (fun k z v => v = (k : Int) ∧ bI z (INJ n (nxt n o) ∧ ∀ x, x < k → ∀ y, y < x → g (5 * nxt n o x + nxt n o y) = g (5 * x + y))) n 0 ⟨rfl, bI_c b1' ⟨fun h => ⟨h, fa_0⟩, fun h => h.1⟩⟩ (by omega) (by omega) (fun k hk z v hI ny hy => ?_) (fun z v hI ny => ?_)
    · obtain ⟨rfl, u1⟩ := hI
      refine w_j ?_
      refine w_j ?_
      refine w_ltT (by omega) ?_
      refine w_bI u1 (fun no z0 => ?_) (fun yes z1 => ?_)
      · refine w_j ?_
        refine w_eqT z0 ?_
        refine w_lz ?_
        refine hn _ _ _ ⟨by omega, ?_⟩
        rw [ss, ind_f (fun al => no ⟨fun x hx b hb => (al x hx b hb).1, fun x hx y hy' => ?_⟩), t1]
        have a := (al x (by omega) y hy').2
        have c1 := (tg (nxt n o y) (nxt n o x) (by have := sl y (by omega); omega) (by have := sl x (by omega); omega)).2.2.1
        have c2 := (tg y x (by omega) (by omega)).2.2.1
        omega
      · refine w_q2 (fun m z v => v = (m : Int) ∧ bI z (∀ y, y < m → g (5 * nxt n o k + nxt n o y) = g (5 * k + y))) k 0 ⟨rfl, by rw [z1]; exact bI_1 fa_0⟩ (by omega) (by omega) (fun m hm z v hI nz hz => ?_) (fun z v hI nz => ?_)
        · obtain ⟨rfl, v1⟩ := hI
          have dk := sl k hk
          have dm := sl m (by omega)
          refine w_ltT (by omega) ?_
          refine w_j ?_
          refine w_j ?_
          refine w_bI v1 (fun no _ => hz _ _ ⟨by omega, bI_0 (fun q => no (fun y hy' => q y (by omega)))⟩) (fun yy _ => ?_)
          refine w_gi (by omega) ?_
          refine w_gi (by omega) ?_
          rw [ix_nat (show k < 2147483648 by omega), ix_nat (show m < 2147483648 by omega), b2' k hk, b2' m (by omega)]
          refine w_d tg (by omega) (fun r1 e1 l1 m1 => ?_)
          refine w_d tg (by omega) (fun r2 e2 l2 m2 => ?_)
          refine w_eq (by omega) (fun c => hz _ _ ⟨by omega, bI_1 (fa_s yy (by omega))⟩) (fun c => hz _ _ ⟨by omega, bI_0 (fun q => c (by have := q m (by omega); omega))⟩)
        · obtain ⟨rfl, v1⟩ := hI
          refine w_ltF (by omega) ?_
          refine hy _ _ ⟨by omega, bI_c v1 ⟨fun h => ⟨yes.1, fa_s yes.2 h⟩, fun h => h.2 k (by omega)⟩⟩
    · obtain ⟨rfl, u1⟩ := hI
      refine w_j ?_
      refine w_j ?_
      refine w_ltF (by omega) ?_
      refine fin z (bI_c u1 ?_)
      constructor
      · rintro ⟨q1, q2⟩ x hx b hb
        refine ⟨q1 x hx b hb, ?_⟩
        have a := q2 x hx b hb
        have c1 := (tg (nxt n o x) (nxt n o b) (by have := sl x hx; omega) (by have := sl b (by omega); omega)).2.2.1
        have c2 := (tg x b (by omega) (by omega)).2.2.1
        omega
      · intro al
        refine ⟨fun x hx b hb => (al x hx b hb).1, fun x hx y hy' => ?_⟩
        have a := (al x hx y hy').2
        have c1 := (tg (nxt n o y) (nxt n o x) (by have := sl y (by omega); omega) (by have := sl x hx; omega)).2.2.1
        have c2 := (tg y x (by omega) (by omega)).2.2.1
        omega
  · obtain ⟨rfl, t1⟩ := hI
    refine w_b1s (orders_X9 h3 h5) ?_
    refine w_ltF (by omega) ?_
    exact w_s t1
