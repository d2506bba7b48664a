/-! PURE PART: corners: what they are; each is an eye, or hangs on a round of three or of five -/
def itf (s : Nat → Nat) : Nat → Nat → Nat
  | 0, x => x
  | k + 1, x => s (itf s k x)
theorem itf_s (s : Nat → Nat) : ∀ (k x : Nat), itf s (k + 1) x = itf s k (s x)
  | 0, _ => rfl
  | k + 1, x => by
    show s (itf s (k + 1) x) = s (itf s k (s x))
    rw [itf_s s k x]
theorem itf_add (s : Nat → Nat) (a : Nat) : ∀ (b x : Nat), itf s (b + a) x = itf s b (itf s a x)
  | 0, x => by rw [Nat.zero_add]; rfl
  | b + 1, x => by
    rw [show b + 1 + a = (b + a) + 1 by omega]
    show s (itf s (b + a) x) = s (itf s b (itf s a x))
    rw [itf_add s a b x]
theorem itf_lt {n : Nat} {s : Nat → Nat} (hs : ∀ x, x < n → s x < n) : ∀ (k x : Nat), x < n → itf s k x < n
  | 0, _, h => h
  | k + 1, x, h => hs _ (itf_lt hs k x h)
/-- from x on, ways go round at last, L steps each time -/
def CYC (s : Nat → Nat) (n x L : Nat) : Prop := itf s L (itf s n x) = itf s n x ∧ ∀ j, 0 < j → j < L → itf s j (itf s n x) ≠ itf s n x
def CORN (n : Nat) (g f : Nat → Int) : Prop := F80 n f ∧ KEEP n g f ∧ ∃ s : Nat → Nat, (∀ x, x < n → s x < n ∧ TI g f x (s x)) ∧ ∀ x, x < n → ∃ L, L % 2 = 1 ∧ L ≤ 5 ∧ CYC s n x L
def eyf (g : Nat → Int) (x y : Nat) : Int := 2 * g (5 * x + y)
theorem TAB_t {n : Nat} {g : Nat → Int} (T : TAB n g) {x y z : Nat} (hx : x < n) (hy : y < n) (hz : z < n) : g (5 * x + z) ≤ g (5 * x + y) + g (5 * y + z) := by
  have := T x hx y hy z hz
  unfold Br at this
  omega
theorem eye_corn {n x : Nat} {g : Nat → Int} (h5 : n ≤ 5) (tg : Tb g) (T : TAB n g) (hx : x < n) : CORN n g (eyf g x) := by
  refine ⟨fun y hy => ?_, fun y hy z hz ne => ?_, fun _ => x, fun y hy => ⟨hx, ?_⟩, fun y hy => ⟨1, rfl, by omega, ?_, fun j a b => by omega⟩⟩
  · have := tg x y (by omega) (by omega)
    unfold eyf
    omega
  · have a := TAB_t T hy hx hz
    have b := (tg x y (by omega) (by omega)).2.2.1
    unfold eyf
    omega
  · have a := tg x x (by omega) (by omega)
    have b := (tg x y (by omega) (by omega)).2.2.1
    show 2 * g (5 * x + y) + 2 * g (5 * x + x) = 2 * g (5 * y + x)
    omega
  · have e : ∀ k, 0 < k → itf (fun _ => x) k y = x := fun k hk => by
      obtain ⟨q, rfl⟩ : ∃ q, k = q + 1 := ⟨k - 1, by omega⟩
      rfl
    rw [e n (by omega)]
    rfl
/-- a number 0: the eye of that point -/
theorem zero_eye {n x : Nat} {g f : Nat → Int} (h5 : n ≤ 5) (tg : Tb g) (T : TAB n g) (hx : x < n) (C : CORN n g f) (h0 : f x = 0) : ∀ y, y < n → f y = eyf g x y := by
  obtain ⟨C1, C2, s, C3, -⟩ := C
  intro y hy
  unfold eyf
  by_cases e : y = x
  · rw [e, h0, (tg x x (by omega) (by omega)).2.2.2]
    omega
  · have k1 := C2 y hy x hx e
    have b := (tg x y (by omega) (by omega)).2.2.1
    obtain ⟨s1, s2⟩ := C3 y hy
    unfold TI at s2
    by_cases e2 : s y = x
    · rw [e2] at s2
      omega
    · have k2 := C2 (s y) s1 x hx e2
      have t := TAB_t T hy hx s1
      have b2 := (tg x (s y) (by omega) (by omega)).2.2.1
      omega
/-- least that keeps one apart from some -/
def NDD (n : Nat) (g F : Nat → Int) (i : Nat) (P : Nat → Prop) : Prop := 0 ≤ F i ∧ (∀ j, j < n → j ≠ i → P j → 2 * g (5 * i + j) - F j ≤ F i) ∧ (F i = 0 ∨ ∃ j, j < n ∧ j ≠ i ∧ P j ∧ F i = 2 * g (5 * i + j) - F j)
def rho (t n i : Nat) : Nat := if t = 0 then i else n - 1 - i
theorem rho_lt {t n i : Nat} (h : i < n) : rho t n i < n := by
  unfold rho
  split <;> omega
theorem rho_rho {t n i : Nat} (h : i < n) : rho t n (rho t n i) = i := by
  unfold rho
  split <;> omega
def in3 (x y z j : Nat) : Prop := j = x ∨ j = y ∨ j = z
def B3 (g F : Nat → Int) (x y z : Nat) : Prop := F x = g (5 * x + y) + g (5 * x + z) - g (5 * y + z) ∧ F y = g (5 * x + y) + g (5 * y + z) - g (5 * x + z) ∧ F z = g (5 * x + z) + g (5 * y + z) - g (5 * x + y)
def EXT (t n : Nat) (g F : Nat → Int) (x y z : Nat) : Prop := B3 g F x y z ∧ ∀ i, i < n → ¬ in3 x y z i → NDD n g F i (fun j => in3 x y z j ∨ rho t n j < rho t n i)
theorem EXT_80 {t n x y z : Nat} {g F : Nat → Int} (h5 : n ≤ 5) (tg : Tb g) (T : TAB n g) (hx : x < n) (hy : y < n) (hz : z < n) (E : EXT t n g F x y z) : F80 n F := by
  obtain ⟨⟨b1, b2, b3⟩, E2⟩ := E
  have t1 := TAB_t T hx hy hz
  have t2 := TAB_t T hy hx hz
  have t3 := TAB_t T hx hz hy
  have s1 := tg x y (by omega) (by omega)
  have s2 := tg x z (by omega) (by omega)
  have s3 := tg y z (by omega) (by omega)
  have base : ∀ i, in3 x y z i → 0 ≤ F i ∧ F i ≤ 80 := by
    rintro i (rfl | rfl | rfl) <;> omega
  have pos : ∀ i, i < n → 0 ≤ F i := by
    intro i hi
    by_cases c : in3 x y z i
    · exact (base i c).1
    · exact (E2 i hi c).1
  intro i hi
  by_cases c : in3 x y z i
  · exact base i c
  · obtain ⟨n1, n2, n3⟩ := E2 i hi c
    refine ⟨n1, ?_⟩
    rcases n3 with q | ⟨j, j1, j2, j3, j4⟩
    · omega
    · have := pos j j1
      have := tg i j (by omega) (by omega)
      omega
theorem EXT_att {t n x y z i : Nat} {g F : Nat → Int} (h5 : n ≤ 5) (tg : Tb g) (T : TAB n g) (hx : x < n) (hy : y < n) (hz : z < n) (E : EXT t n g F x y z) (hi : i < n) (c : ¬ in3 x y z i) : ∃ j, j < n ∧ (in3 x y z j ∨ rho t n j < rho t n i) ∧ TI g F i j := by
  obtain ⟨⟨b1, b2, b3⟩, E2⟩ := E
  obtain ⟨n1, n2, n3⟩ := E2 i hi c
  rcases n3 with q | ⟨j, j1, j2, j3, j4⟩
  · have a1 := n2 x hx (fun e => c (Or.inl e.symm)) (Or.inl (Or.inl rfl))
    have a2 := n2 y hy (fun e => c (Or.inr (Or.inl e.symm))) (Or.inl (Or.inr (Or.inl rfl)))
    have t1 := TAB_t T hx hi hy
    have s1 := (tg x i (by omega) (by omega)).2.2.1
    by_cases d : 2 * g (5 * i + x) - F x = 0
    · exact ⟨x, hx, Or.inl (Or.inl rfl), by unfold TI; omega⟩
    · exact ⟨y, hy, Or.inl (Or.inr (Or.inl rfl)), by unfold TI; omega⟩
  · exact ⟨j, j1, j3, by unfold TI; omega⟩
theorem EXT_corn {t n x y z : Nat} {g F : Nat → Int} (h5 : n ≤ 5) (tg : Tb g) (T : TAB n g) (hx : x < n) (hy : y < n) (hz : z < n) (xy : x ≠ y) (xz : x ≠ z) (yz : y ≠ z) (E : EXT t n g F x y z) : CORN n g F := by
  have f80 := EXT_80 h5 tg T hx hy hz E
  have att : ∀ i, ∃ j, i < n → ¬ in3 x y z i → j < n ∧ (in3 x y z j ∨ rho t n j < rho t n i) ∧ TI g F i j := by
    intro i
    by_cases hi : i < n
    · by_cases c : in3 x y z i
      · exact ⟨0, fun _ q => absurd c q⟩
      · obtain ⟨j, q⟩ := EXT_att h5 tg T hx hy hz E hi c
        exact ⟨j, fun _ _ => q⟩
    · exact ⟨0, fun q => absurd q hi⟩
  obtain ⟨τ, hτ⟩ := Classical.axiomOfChoice att
  obtain ⟨⟨b1, b2, b3⟩, E2⟩ := E
  have sxy := (tg x y (by omega) (by omega)).2.2.1
  have sxz := (tg x z (by omega) (by omega)).2.2.1
  have syz := (tg y z (by omega) (by omega)).2.2.1
  refine ⟨f80, fun i hi j hj ne => ?_, fun i => if i = x then y else if i = y then z else if i = z then x else τ i, fun i hi => ?_, fun u hu => ?_⟩
  · by_cases ci : in3 x y z i
    · by_cases cj : in3 x y z j
      · rcases ci with rfl | rfl | rfl <;> rcases cj with rfl | rfl | rfl <;> omega
      · have := (E2 j hj cj).2.1 i hi ne (Or.inl ci)
        have := (tg i j (by omega) (by omega)).2.2.1
        omega
    · by_cases cj : in3 x y z j
      · have := (E2 i hi ci).2.1 j hj (fun e => ne e.symm) (Or.inl cj)
        omega
      · have r1 := rho_rho (t := t) hi
        have r2 := rho_rho (t := t) hj
        by_cases l : rho t n j < rho t n i
        · have := (E2 i hi ci).2.1 j hj (fun e => ne e.symm) (Or.inr l)
          omega
        · have l2 : rho t n i < rho t n j := by
            by_cases e : rho t n i = rho t n j
            · rw [e, r2] at r1
              exact absurd r1.symm ne
            · omega
          have := (E2 j hj cj).2.1 i hi ne (Or.inr l2)
          have := (tg i j (by omega) (by omega)).2.2.1
          omega
  · show (if i = x then y else if i = y then z else if i = z then x else τ i) < n ∧ TI g F i (if i = x then y else if i = y then z else if i = z then x else τ i)
    by_cases c1 : i = x
    · rw [if_pos c1, c1]
      exact ⟨hy, by unfold TI; omega⟩
    · rw [if_neg c1]
      by_cases c2 : i = y
      · rw [if_pos c2, c2]
        exact ⟨hz, by unfold TI; omega⟩
      · rw [if_neg c2]
        by_cases c3 : i = z
        · rw [if_pos c3, c3]
          exact ⟨hx, by unfold TI; omega⟩
        · rw [if_neg c3]
          have := hτ i hi (fun q => by rcases q with q | q | q; exact c1 q; exact c2 q; exact c3 q)
          exact ⟨this.1, this.2.2⟩
  · generalize hs : (fun i => if i = x then y else if i = y then z else if i = z then x else τ i) = s
    have sx : s x = y := by rw [← hs]; exact if_pos rfl
    have sy : s y = z := by
      rw [← hs]
      show (if y = x then y else if y = y then z else _) = z
      rw [if_neg (fun e => xy e.symm), if_pos rfl]
    have sz : s z = x := by
      rw [← hs]
      show (if z = x then y else if z = y then z else if z = z then x else _) = x
      rw [if_neg (fun e => xz e.symm), if_neg (fun e => yz e.symm), if_pos rfl]
    have so : ∀ i, i < n → ¬ in3 x y z i → s i < n ∧ (in3 x y z (s i) ∨ rho t n (s i) < rho t n i) := by
      intro i hi c
      have e : s i = τ i := by
        rw [← hs]
        show (if i = x then y else if i = y then z else if i = z then x else τ i) = τ i
        rw [if_neg (fun e => c (Or.inl e)), if_neg (fun e => c (Or.inr (Or.inl e))), if_neg (fun e => c (Or.inr (Or.inr e)))]
      rw [e]
      have := hτ i hi c
      exact ⟨this.1, this.2.1⟩
    have st : ∀ i, in3 x y z i → s i < n ∧ in3 x y z (s i) := by
      rintro i (rfl | rfl | rfl)
      · rw [sx]
        exact ⟨hy, Or.inr (Or.inl rfl)⟩
      · rw [sy]
        exact ⟨hz, Or.inr (Or.inr rfl)⟩
      · rw [sz]
        exact ⟨hx, Or.inl rfl⟩
    have come : ∀ m u, u < n → (in3 x y z u ∨ rho t n u < m) → in3 x y z (itf s m u) := by
      intro m
      induction m with
      | zero =>
        intro u hu q
        rcases q with q | q
        · exact q
        · omega
      | succ m ih =>
        intro u hu q
        rw [itf_s]
        by_cases c : in3 x y z u
        · exact ih (s u) (st u c).1 (Or.inl (st u c).2)
        · obtain ⟨s1, s2⟩ := so u hu c
          rcases s2 with s2 | s2
          · exact ih (s u) s1 (Or.inl s2)
          · rcases q with q | q
            · exact absurd q c
            · exact ih (s u) s1 (Or.inr (by omega))
    refine ⟨3, rfl, by omega, ?_⟩
    have w := come n u hu (Or.inr (rho_lt hu))
    unfold CYC
    generalize itf s n u = w0 at w ⊢
    rcases w with rfl | rfl | rfl
    · refine ⟨by show s (s (s w0)) = w0; rw [sx, sy, sz], fun j a b => ?_⟩
      have : j = 1 ∨ j = 2 := by omega
      rcases this with rfl | rfl
      · show s w0 ≠ w0
        rw [sx]
        exact fun e => xy e.symm
      · show s (s w0) ≠ w0
        rw [sx, sy]
        exact fun e => xz e.symm
    · refine ⟨by show s (s (s w0)) = w0; rw [sy, sz, sx], fun j a b => ?_⟩
      have : j = 1 ∨ j = 2 := by omega
      rcases this with rfl | rfl
      · show s w0 ≠ w0
        rw [sy]
        exact fun e => yz e.symm
      · show s (s w0) ≠ w0
        rw [sy, sz]
        exact xy
    · refine ⟨by show s (s (s w0)) = w0; rw [sz, sx, sy], fun j a b => ?_⟩
      have : j = 1 ∨ j = 2 := by omega
      rcases this with rfl | rfl
      · show s w0 ≠ w0
        rw [sz]
        exact xz
      · show s (s w0) ≠ w0
        rw [sz, sx]
        exact yz
theorem EXT_is {t n x y z : Nat} {g F f : Nat → Int} {s : Nat → Nat} (h5 : n ≤ 5) (tg : Tb g) (hx : x < n) (hy : y < n) (hz : z < n) (xy : x ≠ y) (xz : x ≠ z) (yz : y ≠ z) (E : EXT t n g F x y z) (f8 : F80 n f) (K : KEEP n g f) (S : ∀ i, i < n → s i < n ∧ TI g f i (s i)) (fx : TI g f x y) (fy : TI g f y z) (fz' : TI g f z x) (ne : ∀ i, i < n → s i ≠ i) (or' : ∀ i, i < n → ¬ in3 x y z i → in3 x y z (s i) ∨ rho t n (s i) < rho t n i) : ∀ i, i < n → F i = f i := by
  obtain ⟨⟨b1, b2, b3⟩, E2⟩ := E
  have sxy := (tg x y (by omega) (by omega)).2.2.1
  have sxz := (tg x z (by omega) (by omega)).2.2.1
  have syz := (tg y z (by omega) (by omega)).2.2.1
  unfold TI at fx fy fz'
  have m : ∀ k i, i < n → (in3 x y z i ∨ rho t n i < k) → F i = f i := by
    intro k
    induction k with
    | zero =>
      intro i hi q
      rcases q with (rfl | rfl | rfl) | q
      · omega
      · omega
      · omega
      · omega
    | succ k ih =>
      intro i hi q
      by_cases c : in3 x y z i
      · exact ih i hi (Or.inl c)
      · rcases q with q | q
        · exact absurd q c
        · obtain ⟨n1, n2, n3⟩ := E2 i hi c
          obtain ⟨s1, s2⟩ := S i hi
          have q1 := or' i hi c
          have es := ih (s i) s1 (by rcases q1 with w | w; exact Or.inl w; exact Or.inr (by omega))
          have a := n2 (s i) s1 (ne i hi) q1
          unfold TI at s2
          have lo : f i ≤ F i := by omega
          have hi2 : F i ≤ f i := by
            rcases n3 with w | ⟨j, j1, j2, j3, j4⟩
            · have := f8 i hi
              omega
            · have ej := ih j j1 (by rcases j3 with w | w; exact Or.inl w; exact Or.inr (by omega))
              have := K i hi j j1 (fun e => j2 e.symm)
              omega
          omega
  intro i hi
  exact m n i hi (Or.inr (rho_lt hi))
