/-! PURE PART: each corner is met -/
theorem TI_sym {n x y : Nat} {g f : Nat → Int} (h5 : n ≤ 5) (tg : Tb g) (hx : x < n) (hy : y < n) (h : TI g f x y) : TI g f y x := by
  have := (tg x y (by omega) (by omega)).2.2.1
  unfold TI at *
  omega
theorem cyc_inj {s : Nat → Nat} {w L : Nat} (h1 : itf s L w = w) (h2 : ∀ j, 0 < j → j < L → itf s j w ≠ w) {i j : Nat} (hij : i < j) (hj : j < L) : itf s i w ≠ itf s j w := by
  intro e
  have a := itf_add s i (L - j) w
  have b := itf_add s j (L - j) w
  rw [← e, ← a, show L - j + j = L by omega, h1] at b
  exact h2 (L - j + i) (by omega) (by omega) b.symm
theorem comp2 : ∀ x y z i a j : Fin 5, x.val < y.val → y.val < z.val → i.val < a.val → i ≠ x → i ≠ y → i ≠ z → a ≠ x → a ≠ y → a ≠ z → j ≠ x → j ≠ y → j ≠ z → j = i ∨ j = a := by decide +kernel
theorem no4f : ∀ a b c d e : Fin 4, a = b ∨ a = c ∨ a = d ∨ a = e ∨ b = c ∨ b = d ∨ b = e ∨ c = d ∨ c = e ∨ d = e := by decide +kernel
theorem no4 (a b c d e : Fin 4) (h1 : a ≠ b) (h2 : a ≠ c) (h3 : a ≠ d) (h4 : a ≠ e) (h5 : b ≠ c) (h6 : b ≠ d) (h7 : b ≠ e) (h8 : c ≠ d) (h9 : c ≠ e) (h0 : d ≠ e) : False := by
  rcases no4f a b c d e with h | h | h | h | h | h | h | h | h | h
  · exact h1 h
  · exact h2 h
  · exact h3 h
  · exact h4 h
  · exact h5 h
  · exact h6 h
  · exact h7 h
  · exact h8 h
  · exact h9 h
  · exact h0 h
theorem has0 : ∀ a b c d e : Fin 5, a ≠ b → a ≠ c → a ≠ d → a ≠ e → b ≠ c → b ≠ d → b ≠ e → c ≠ d → c ≠ e → d ≠ e → a = 0 ∨ b = 0 ∨ c = 0 ∨ d = 0 ∨ e = 0 := by decide +kernel
theorem sort3 {p q r : Nat} (pq : p ≠ q) (pr : p ≠ r) (qr : q ≠ r) : ∃ x y z, x < y ∧ y < z ∧ ∀ i, in3 x y z i ↔ in3 p q r i := by
  unfold in3
  by_cases a : p < q
  · by_cases b : q < r
    · exact ⟨p, q, r, a, b, fun i => Iff.rfl⟩
    · by_cases c : p < r
      · exact ⟨p, r, q, c, by omega, fun i => by omega⟩
      · exact ⟨r, p, q, by omega, a, fun i => by omega⟩
  · by_cases b : p < r
    · exact ⟨q, p, r, by omega, b, fun i => by omega⟩
    · by_cases c : q < r
      · exact ⟨q, r, p, c, by omega, fun i => by omega⟩
      · exact ⟨r, q, p, by omega, by omega, fun i => by omega⟩
def FIVE (g f : Nat → Int) (a b c d : Nat) : Prop := TI g f 0 a ∧ TI g f a b ∧ TI g f b c ∧ TI g f c d ∧ TI g f d 0
theorem corn_cases {n : Nat} {g f : Nat → Int} (h3 : 3 ≤ n) (h5 : n ≤ 5) (tg : Tb g) (C : CORN n g f) : (∃ x, x < n ∧ f x = 0) ∨ (∃ x y z, x < y ∧ y < z ∧ z < n ∧ ((∀ F, EXT 0 n g F x y z → ∀ i, i < n → F i = f i) ∨ ∀ F, EXT 1 n g F x y z → ∀ i, i < n → F i = f i)) ∨ (n = 5 ∧ ∃ a b c d, (0 < a ∧ a < 5 ∧ 0 < b ∧ b < 5 ∧ 0 < c ∧ c < 5 ∧ 0 < d ∧ d < 5) ∧ (a ≠ b ∧ a ≠ c ∧ a ≠ d ∧ b ≠ c ∧ b ≠ d ∧ c ≠ d) ∧ a < d ∧ FIVE g f a b c d) := by
  obtain ⟨f8, K, s, S, R⟩ := C
  by_cases nz : ∃ x, x < n ∧ f x = 0
  · exact Or.inl nz
  refine Or.inr ?_
  have ne : ∀ i, i < n → s i ≠ i := by
    intro i hi e
    have t := (S i hi).2
    rw [e] at t
    have := (tg i i (by omega) (by omega)).2.2.2
    unfold TI at t
    exact nz ⟨i, hi, by omega⟩
  have sl : ∀ x, x < n → s x < n := fun x hx => (S x hx).1
  obtain ⟨L, L1, L2, L3, L4⟩ := R 0 (by omega)
  have wl : itf s n 0 < n := itf_lt sl n 0 (by omega)
  generalize itf s n 0 = w at L3 L4 wl
  have inj := fun i j a b => cyc_inj (i := i) (j := j) L3 L4 a b
  have hL : L = 1 ∨ L = 3 ∨ L = 5 := by omega
  rcases hL with rfl | rfl | rfl
  · exact absurd L3 (ne w wl)
  · refine Or.inl ?_
    have i01 : w ≠ s w := inj 0 1 (by omega) (by omega)
    have i02 : w ≠ s (s w) := inj 0 2 (by omega) (by omega)
    have i12 : s w ≠ s (s w) := inj 1 2 (by omega) (by omega)
    have w3 : s (s (s w)) = w := L3
    have l1 := sl w wl
    have l2 := sl _ l1
    have all : ∀ i j, in3 w (s w) (s (s w)) i → in3 w (s w) (s (s w)) j → i ≠ j → TI g f i j := by
      have a := (S w wl).2
      have b := (S _ l1).2
      have c := (S _ l2).2
      rw [w3] at c
      rintro i j (rfl | rfl | rfl) (rfl | rfl | rfl) ij
      · exact absurd rfl ij
      · exact a
      · exact TI_sym h5 tg l2 wl c
      · exact TI_sym h5 tg wl l1 a
      · exact absurd rfl ij
      · exact b
      · exact c
      · exact TI_sym h5 tg l1 l2 b
      · exact absurd rfl ij
    have ltn : ∀ i, in3 w (s w) (s (s w)) i → i < n := by
      rintro i (rfl | rfl | rfl)
      · exact wl
      · exact l1
      · exact l2
    obtain ⟨x, y, z, xy, yz, e⟩ := sort3 i01 i02 i12
    have hx := ltn x ((e x).mp (Or.inl rfl))
    have hy := ltn y ((e y).mp (Or.inr (Or.inl rfl)))
    have hz := ltn z ((e z).mp (Or.inr (Or.inr rfl)))
    have txy := all x y ((e x).mp (Or.inl rfl)) ((e y).mp (Or.inr (Or.inl rfl))) (by omega)
    have tyz := all y z ((e y).mp (Or.inr (Or.inl rfl))) ((e z).mp (Or.inr (Or.inr rfl))) (by omega)
    have tzx := all z x ((e z).mp (Or.inr (Or.inr rfl))) ((e x).mp (Or.inl rfl)) (by omega)
    refine ⟨x, y, z, xy, yz, hz, ?_⟩
    by_cases o0 : ∀ i, i < n → ¬ in3 x y z i → in3 x y z (s i) ∨ rho 0 n (s i) < rho 0 n i
    · exact Or.inl (fun F E => EXT_is h5 tg hx hy hz (by omega) (by omega) (by omega) E f8 K S txy tyz tzx ne o0)
    · by_cases o1 : ∀ i, i < n → ¬ in3 x y z i → in3 x y z (s i) ∨ rho 1 n (s i) < rho 1 n i
      · exact Or.inr (fun F E => EXT_is h5 tg hx hy hz (by omega) (by omega) (by omega) E f8 K S txy tyz tzx ne o1)
      · exfalso
        have ⟨i, i1⟩ := Classical.not_forall.mp o0
        have ⟨hi, i2⟩ := Classical.not_imp.mp i1
        have ⟨i3, i4⟩ := Classical.not_imp.mp i2
        have ⟨j, j1⟩ := Classical.not_forall.mp o1
        have ⟨hj, j2⟩ := Classical.not_imp.mp j1
        have ⟨j3, j4⟩ := Classical.not_imp.mp j2
        have i5 : ¬ in3 x y z (s i) := fun q => i4 (Or.inl q)
        have j5 : ¬ in3 x y z (s j) := fun q => j4 (Or.inl q)
        have si := sl i hi
        have sj := sl j hj
        have i6 : i < s i := by
          have q : ¬ s i < i := fun q => i4 (Or.inr q)
          have := ne i hi
          omega
        have j6 : s j < j := by
          have q : ¬ (n - 1 - s j < n - 1 - j) := fun q => j4 (Or.inr q)
          have := ne j hj
          omega
        have nn : ∀ {u v : Nat}, ¬ in3 x y z u → (u ≠ x ∧ u ≠ y ∧ u ≠ z) := fun q => ⟨fun e => q (Or.inl e), fun e => q (Or.inr (Or.inl e)), fun e => q (Or.inr (Or.inr e))⟩
        have fin : ∀ u v : Nat, (hu : u < 5) → (hv : v < 5) → u ≠ v → (⟨u, hu⟩ : Fin 5) ≠ ⟨v, hv⟩ := fun u v hu hv q e => q (congrArg Fin.val e)
        have pick : ∀ u, u < n → ¬ in3 x y z u → u = i ∨ u = s i := by
          intro u hu qu
          have a := nn (v := 0) i3
          have b := nn (v := 0) i5
          have c := nn (v := 0) qu
          rcases comp2 ⟨x, by omega⟩ ⟨y, by omega⟩ ⟨z, by omega⟩ ⟨i, by omega⟩ ⟨s i, by omega⟩ ⟨u, by omega⟩ xy yz i6 (fin _ _ _ _ a.1) (fin _ _ _ _ a.2.1) (fin _ _ _ _ a.2.2) (fin _ _ _ _ b.1) (fin _ _ _ _ b.2.1) (fin _ _ _ _ b.2.2) (fin _ _ _ _ c.1) (fin _ _ _ _ c.2.1) (fin _ _ _ _ c.2.2) with e | e
          · exact Or.inl (congrArg Fin.val e)
          · exact Or.inr (congrArg Fin.val e)
        have two : s (s i) = i := by
          rcases pick j hj j3 with e1 | e1 <;> rcases pick (s j) sj j5 with e2 | e2
          · omega
          · omega
          · rw [e1] at e2
            exact e2
          · omega
        obtain ⟨M, M1, M2, M3, M4⟩ := R i hi
        have st : ∀ k, itf s k i = i ∨ itf s k i = s i := by
          intro k
          induction k with
          | zero => exact Or.inl rfl
          | succ k ih =>
            rcases ih with e | e
            · exact Or.inr (by show s (itf s k i) = s i; rw [e])
            · exact Or.inl (by show s (itf s k i) = i; rw [e]; exact two)
        have y2 : s (s (itf s n i)) = itf s n i := by
          rcases st n with e | e
          · rw [e]
            exact two
          · rw [e, two]
        have y1 : s (itf s n i) ≠ itf s n i := ne _ (itf_lt sl n i hi)
        have hM : M = 1 ∨ 2 < M := by omega
        rcases hM with rfl | hM
        · exact y1 M3
        · exact M4 2 (by omega) hM y2
  · refine Or.inr ?_
    have ww : ∀ k, itf s k w < n := fun k => itf_lt sl k w wl
    have fin4 : n = 5 := by
      refine Classical.byContradiction (fun q => ?_)
      have l4 : ∀ k, itf s k w < 4 := fun k => by have := ww k; omega
      have ii : ∀ i j, i < j → j < 5 → (⟨itf s i w, l4 i⟩ : Fin 4) ≠ ⟨itf s j w, l4 j⟩ := fun i j a b e => inj i j a b (congrArg Fin.val e)
      exact no4 _ _ _ _ _ (ii 0 1 (by omega) (by omega)) (ii 0 2 (by omega) (by omega)) (ii 0 3 (by omega) (by omega)) (ii 0 4 (by omega) (by omega)) (ii 1 2 (by omega) (by omega)) (ii 1 3 (by omega) (by omega)) (ii 1 4 (by omega) (by omega)) (ii 2 3 (by omega) (by omega)) (ii 2 4 (by omega) (by omega)) (ii 3 4 (by omega) (by omega))
    subst fin4
    refine ⟨rfl, ?_⟩
    have zero : ∃ k, k < 5 ∧ itf s k w = 0 := by
      have ii : ∀ i j, i < j → j < 5 → (⟨itf s i w, ww i⟩ : Fin 5) ≠ ⟨itf s j w, ww j⟩ := fun i j a b e => inj i j a b (congrArg Fin.val e)
      rcases has0 _ _ _ _ _ (ii 0 1 (by omega) (by omega)) (ii 0 2 (by omega) (by omega)) (ii 0 3 (by omega) (by omega)) (ii 0 4 (by omega) (by omega)) (ii 1 2 (by omega) (by omega)) (ii 1 3 (by omega) (by omega)) (ii 1 4 (by omega) (by omega)) (ii 2 3 (by omega) (by omega)) (ii 2 4 (by omega) (by omega)) (ii 3 4 (by omega) (by omega)) with e | e | e | e | e
      · exact ⟨0, by omega, congrArg Fin.val e⟩
      · exact ⟨1, by omega, congrArg Fin.val e⟩
      · exact ⟨2, by omega, congrArg Fin.val e⟩
      · exact ⟨3, by omega, congrArg Fin.val e⟩
      · exact ⟨4, by omega, congrArg Fin.val e⟩
    obtain ⟨k, hk, e0⟩ := zero
    have c5 : itf s 5 0 = 0 := by
      rw [← e0, ← itf_add, show 5 + k = k + 5 by omega, itf_add, L3]
    have cj : ∀ j, 0 < j → j < 5 → itf s j 0 ≠ 0 := by
      intro j a b q
      rw [← e0, ← itf_add] at q
      have z := congrArg (itf s (5 - k)) q
      rw [← itf_add, ← itf_add, show 5 - k + (j + k) = j + 5 by omega, show 5 - k + k = 5 by omega, itf_add, L3] at z
      exact L4 j a b z
    have inj0 := fun i j a b => cyc_inj (i := i) (j := j) c5 cj a b
    have d01 : s 0 ≠ s (s 0) := inj0 1 2 (by omega) (by omega)
    have d02 : s 0 ≠ s (s (s 0)) := inj0 1 3 (by omega) (by omega)
    have d03 : s 0 ≠ s (s (s (s 0))) := inj0 1 4 (by omega) (by omega)
    have d12 : s (s 0) ≠ s (s (s 0)) := inj0 2 3 (by omega) (by omega)
    have d13 : s (s 0) ≠ s (s (s (s 0))) := inj0 2 4 (by omega) (by omega)
    have d23 : s (s (s 0)) ≠ s (s (s (s 0))) := inj0 3 4 (by omega) (by omega)
    have p1 : s 0 ≠ 0 := cj 1 (by omega) (by omega)
    have p2 : s (s 0) ≠ 0 := cj 2 (by omega) (by omega)
    have p3 : s (s (s 0)) ≠ 0 := cj 3 (by omega) (by omega)
    have p4 : s (s (s (s 0))) ≠ 0 := cj 4 (by omega) (by omega)
    have c5' : s (s (s (s (s 0)))) = 0 := c5
    have l1 := sl 0 (by omega)
    have l2 := sl _ l1
    have l3 := sl _ l2
    have l4 := sl _ l3
    have t0 := (S 0 (by omega)).2
    have t1 := (S _ l1).2
    have t2 := (S _ l2).2
    have t3 := (S _ l3).2
    have t4 := (S _ l4).2
    rw [c5'] at t4
    by_cases l : s 0 < s (s (s (s 0)))
    · exact ⟨s 0, s (s 0), s (s (s 0)), s (s (s (s 0))), by omega, ⟨d01, d02, d03, d12, d13, d23⟩, l, t0, t1, t2, t3, t4⟩
    · exact ⟨s (s (s (s 0))), s (s (s 0)), s (s 0), s 0, by omega, ⟨d23.symm, d13.symm, d03.symm, d12.symm, d02.symm, d01.symm⟩, by omega, TI_sym h5 tg l4 (by omega) t4, TI_sym h5 tg l3 l4 t3, TI_sym h5 tg l2 l3 t2, TI_sym h5 tg l1 l2 t1, TI_sym h5 tg (by omega) l1 t0⟩
