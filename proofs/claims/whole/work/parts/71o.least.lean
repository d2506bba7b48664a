/-! PURE PART: made least; that of a corner -/
def ndf (g nu : Nat → Int) (x : Nat) : Nat → Int
  | 0 => 0
  | k + 1 => if k = x then ndf g nu x k else mxx (ndf g nu x k) (2 * g (5 * x + k) - nu k)
theorem ndf_is {n x : Nat} {g nu : Nat → Int} : ∀ k, 0 ≤ ndf g nu x k ∧ (∀ y, y < k → y ≠ x → 2 * g (5 * x + y) - nu y ≤ ndf g nu x k) ∧ (ndf g nu x k = 0 ∨ ∃ y, y < k ∧ y ≠ x ∧ ndf g nu x k = 2 * g (5 * x + y) - nu y)
  | 0 => ⟨Int.le_refl _, fa_0, Or.inl rfl⟩
  | k + 1 => by
    obtain ⟨h1, h2, h3⟩ := ndf_is (n := n) (x := x) (g := g) (nu := nu) k
    unfold ndf
    by_cases c : k = x
    · rw [if_pos c]
      refine ⟨h1, fa_s h2 (fun q => absurd c q), ?_⟩
      rcases h3 with h | ⟨y, y1, y2⟩
      · exact Or.inl h
      · exact Or.inr ⟨y, by omega, y2⟩
    · rw [if_neg c]
      have m := mxx_w (ndf g nu x k) (2 * g (5 * x + k) - nu k)
      refine ⟨by omega, fa_s (fun y hy ne => by have := h2 y hy ne; omega) (fun _ => m.2.1), ?_⟩
      rcases m.2.2 with e | e
      · rw [e]
        rcases h3 with h | ⟨y, y1, y2⟩
        · exact Or.inl h
        · exact Or.inr ⟨y, by omega, y2⟩
      · exact Or.inr ⟨k, by omega, c, e⟩
def mls (n : Nat) (g nu : Nat → Int) : Nat → Nat → Int
  | 0 => nu
  | k + 1 => up (mls n g nu k) k (ndf g (mls n g nu k) k n)
theorem mls_in {n : Nat} {g nu : Nat → Int} (h5 : n ≤ 5) (tg : Tb g) (h : ∀ k, k < 5 → 0 ≤ nu k ∧ nu k ≤ 160) : ∀ k, k ≤ n → ∀ j, j < 5 → 0 ≤ mls n g nu k j ∧ mls n g nu k j ≤ 160
  | 0, _, j, hj => h j hj
  | k + 1, hk, j, hj => by
    have ih := mls_in h5 tg h k (by omega)
    show 0 ≤ up (mls n g nu k) k _ j ∧ up (mls n g nu k) k _ j ≤ 160
    by_cases e : j = k
    · rw [e, up_eq]
      obtain ⟨a, b, c⟩ := ndf_is (n := n) (g := g) (nu := mls n g nu k) (x := k) n
      refine ⟨a, ?_⟩
      rcases c with c | ⟨y, y1, y2, y3⟩
      · omega
      · have := ih y (by omega)
        have := tg k y (by omega) (by omega)
        omega
    · rw [up_ne _ _ e]
      exact ih j hj
theorem becomes_X2 {x : Nat} {v : Int} {nu : Nat → Int} (hx : x < 5) (hv : rg v) (hr : rg (nu x)) : f_X2_becomes x v nu = some (ne1 (nu x) v, up nu x v) := by
  obtain ⟨v1, v2⟩ := hv
  obtain ⟨r1, r2⟩ := hr
  refine wp_e ?_
  unfold f_X2_becomes
  refine w_gi (by omega) ?_
  refine w_j ?_
  rw [ix_nat (show x < 2147483648 by omega)]
  refine w_eq (by omega) (fun c => ?_) (fun c => ?_)
  · refine w_gi (by omega) ?_
    rw [ne1_t c]
    exact w_s rfl
  · refine w_gi (by omega) ?_
    rw [ne1_f c]
    exact w_s rfl
theorem make_X2 {n : Nat} {g far nu nb : Nat → Int} (h3 : 3 ≤ n) (h5 : n ≤ 5) (tg : Tb g) (tf : Tb far) (ag : Ag n g far) (hn : ∀ k, k < 5 → nu k = nb k ∧ 0 ≤ nu k ∧ nu k ≤ 160) : wp (f_X2_makeLeast n g nu) (fun o => o.1 = sm (fun k => ne1 (mls n far nb k k) (ndf far (mls n far nb k) k n)) n ∧ ∀ j, j < 5 → o.2 j = mls n far nb n j) := by
  unfold f_X2_makeLeast
  have nbr : ∀ k, k < 5 → 0 ≤ nb k ∧ nb k ≤ 160 := fun k hk => by have := hn k hk; omega
  have p1 : 1 ≤ 1 <<< n := by
    rw [Nat.one_shiftLeft]
    exact Nat.one_le_two_pow
  have p2 : 1 <<< n ≤ 32 := by
    rw [Nat.one_shiftLeft]
    exact two5 h5
  refine w_l (fun m em => ?_)
  rw [one_shl (by omega)] at em
  have em' : m = ((1 <<< n - 1 : Nat) : Int) := by omega
  subst em'
  refine w_q3 (fun k u v nu => v = (k : Int) ∧ u = sm (fun k => ne1 (mls n far nb k k) (ndf far (mls n far nb k) k n)) k ∧ ∀ j, j < 5 → nu j = mls n far nb k j) n 0 ⟨rfl, rfl, fun j hj => (hn j hj).1⟩ (by omega) (by omega) (fun k hk u v nu hI nx hn' => ?_) (fun u v nu hI nx => ?_)
  · obtain ⟨rfl, t1, t2⟩ := hI
    have inn := mls_in h5 tf nbr k (by omega)
    have rn : ∀ j, j < 5 → 0 ≤ nu j ∧ nu j ≤ 160 := fun j hj => by rw [t2 j hj]; exact inn j hj
    refine w_ltT (by omega) ?_
    refine w_b1 (needed_X7 h5 tg hk (by omega) (fun y hy _ _ => by have := rn y (by omega); omega)) (fun r hr => ?_)
    obtain ⟨r0, r1, r2, r3⟩ := hr
    have er : r = ndf far (mls n far nb k) k n := by
      obtain ⟨a, b, c⟩ := ndf_is (n := n) (g := far) (nu := mls n far nb k) (x := k) n
      have lo : ndf far (mls n far nb k) k n ≤ r := by
        rcases c with c | ⟨y, y1, y2, y3⟩
        · omega
        · have := r2 y y1 y2 ((bq_low n y).mpr y1)
          rw [ag k y (by omega) (by omega), t2 y (by omega)] at this
          omega
      have hi : r ≤ ndf far (mls n far nb k) k n := by
        rcases r3 with c | ⟨y, y1, y2, _, y3⟩
        · omega
        · have := b y y1 y2
          rw [ag k y (by omega) (by omega), t2 y (by omega)] at y3
          omega
      omega
    have rk := rn k (by omega)
    refine w_b2s (becomes_X2 (by omega) ⟨by omega, by omega⟩ ⟨by omega, by omega⟩) ?_
    refine w_lz ?_
    refine hn' _ _ _ ⟨by omega, by rw [sm_s, ← t1, t2 k (by omega), er], fun j hj => ?_⟩
    show up nu k r j = up (mls n far nb k) k (ndf far (mls n far nb k) k n) j
    by_cases e : j = k
    · rw [e, up_eq, up_eq, er]
    · rw [up_ne _ _ e, up_ne _ _ e]
      exact t2 j hj
  · obtain ⟨rfl, t1, t2⟩ := hI
    refine w_ltF (by omega) ?_
    exact w_s ⟨t1, t2⟩
theorem take_X2 {n h i : Nat} {held s : Int} {far nu nb : Nat → Int} {c : Nat → Nat} {kx : Nat → Int64} {tw : Nat → Int} (h3 : 3 ≤ n) (h5 : n ≤ 5) (Z : HC n far h c held kx tw) (hi : i < h) (es : s = n) (hn : ∀ k, k < 5 → nu k = nb k ∧ 0 ≤ nu k ∧ nu k ≤ 160) : wp (f_X2_takeCorner i n nu held s kx) (fun o => o.1 = sm (fun k => ne1 (nb k) (cf (c i) k)) n ∧ ∀ j, j < 5 → o.2 j = if j < n then cf (c i) j else nb j) := by
  obtain ⟨z1, z2, z3, z4, z5, z6⟩ := Z
  have ki := z4 i hi
  unfold f_X2_takeCorner
  rw [z1, es]
  refine w_q3 (fun k u v nu => v = (k : Int) ∧ u = sm (fun k => ne1 (nb k) (cf (c i) k)) k ∧ ∀ j, j < 5 → nu j = if j < k then cf (c i) j else nb j) n 0 ⟨rfl, rfl, fun j hj => by rw [if_neg (by omega)]; exact (hn j hj).1⟩ (by omega) (by omega) (fun k hk u v nu' hI nx hn' => ?_) (fun u v nu' hI nx => ?_)
  · obtain ⟨rfl, t1, t2⟩ := hI
    have ek := t2 k (by omega)
    rw [if_neg (by omega)] at ek
    have rk := hn k (by omega)
    have l : dec (c i) k < 128 := Nat.mod_lt _ (by omega)
    refine w_ltT (by omega) ?_
    refine w_b1s (number_X0 h5 h3 hi z2 hk ki.1 ki.2) ?_
    refine w_b2s (becomes_X2 (by omega) ⟨by omega, by omega⟩ ⟨by omega, by omega⟩) ?_
    refine w_lz ?_
    refine hn' _ _ _ ⟨by omega, by rw [sm_s, ← t1, ek]; rfl, fun j hj => ?_⟩
    by_cases e : j = k
    · rw [e, up_eq, if_pos (by omega)]
      rfl
    · rw [up_ne _ _ e, t2 j hj]
      by_cases q : j < k
      · rw [if_pos q, if_pos (by omega)]
      · rw [if_neg q, if_neg (by omega)]
  · obtain ⟨rfl, t1, t2⟩ := hI
    refine w_ltF (by omega) ?_
    exact w_s ⟨t1, t2⟩
