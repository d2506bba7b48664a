/-! PURE PART: the reference tries a naming -/
def CORNs (n : Nat) (g f : Nat → Int) (s : Nat → Nat) : Prop := F80 n f ∧ KEEP n g f ∧ (∀ x, x < n → TI g f x (s x)) ∧ ∀ x, x < n → ∃ L, L % 2 = 1 ∧ CYC s n x L
theorem rem2 {j : Nat} (h : j < 1000) : remI (j : Int) 2 = ((j % 2 : Nat) : Int) := rem_nat (a := j) (b := 2) (by omega) (by omega)
theorem div2 {A : Int} (h : -100000 ≤ A ∧ A ≤ 100000) : divI (2 * A) 2 = A := by
  unfold divI
  rw [Int32.toInt_div, jz_ti (by omega) (by omega), show (jz 2).toInt = 2 from rfl, Int.mul_tdiv_cancel_left A (by decide)]
  exact Int.bmod_eq_of_le (by omega) (by omega)
theorem CYC_u {s : Nat → Nat} {n x L L' : Nat} (h : CYC s n x L) (h' : CYC s n x L') (p : 0 < L) (p' : 0 < L') : L = L' := by
  by_cases a : L < L'
  · exact absurd h.1 (h'.2 L p a)
  · by_cases b : L' < L
    · exact absurd h'.1 (h.2 L' p' b)
    · omega
theorem tries_X9 {n : Nat} {s : Nat → Nat} {nm far t0 : Nat → Int} (h3 : 3 ≤ n) (h5 : n ≤ 5) (tf : Tb far) (hs : ∀ x, x < n → s x < n) (hnm : ∀ x, x < n → nm x = (s x : Int)) (per : ∀ x, x < n → ∃ L, 0 < L ∧ L ≤ 5 ∧ CYC s n x L) : wp (f_X9_tries n far nm t0) (fun o => (o.1 = 0 ∨ o.1 = 1) ∧ (o.1 = 1 → CORN n far o.2) ∧ ∀ f, CORNs n far f s → o.1 = 1 ∧ ∀ x, x < n → o.2 x = f x) := by
  unfold f_X9_tries
  have nix : ∀ {y : Nat}, y < n → nm (ix (y : Int)) = (s y : Int) := fun hy => by rw [ix_nat (by omega), hnm _ hy]
  have pos : ∀ {f : Nat → Int}, CORNs n far f s → ∀ x, x < n → 0 ≤ f x ∧ f x ≤ 80 := fun c => c.1
  refine w_q2 (fun k v t => v = (k : Int) ∧ ∀ p, p < k → t p = -1) n 0 ⟨rfl, fa_0⟩ (by omega) (by omega) (fun k hk v t hI nx hn => ?_) (fun v t hI nx => ?_)
  · obtain ⟨rfl, q1⟩ := hI
    refine w_ltT (by omega) ?_
    refine w_gi (by omega) ?_
    rw [ix_nat (show k < 2147483648 by omega)]
    refine hn _ _ ⟨by omega, fun p hp => ?_⟩
    by_cases e : p = k
    · rw [e, up_eq]
    · rw [up_ne _ _ e]
      exact q1 p (by omega)
  obtain ⟨rfl, q0⟩ := hI
  refine w_ltF (by omega) ?_
  refine w_q2 (fun k v t => v = (k : Int) ∧ (∀ p, p < n → -200 ≤ t p ∧ t p ≤ 200) ∧ (∀ x, x < k → ∃ L, L % 2 = 1 ∧ L ≤ 5 ∧ CYC s n x L) ∧ ∀ f, CORNs n far f s → (∀ p, p < n → t p = f p ∨ t p = -1) ∧ ∀ x, x < k → t (itf s n x) = f (itf s n x)) n 0 ⟨rfl, fun p hp => by rw [q0 p hp]; omega, fa_0, fun f c => ⟨fun p hp => Or.inr (q0 p hp), fa_0⟩⟩ (by omega) (by omega) (fun k hk v t hI ny hy => ?_) (fun v t hI ny => ?_)
  · obtain ⟨rfl, r1, r2, r3⟩ := hI
    refine w_ltT (by omega) ?_
    refine w_q2 (fun i u v => v = (i : Int) ∧ u = ((itf s i k : Nat) : Int)) n 0 ⟨rfl, rfl⟩ (by omega) (by omega) (fun i hi u v hI nz hz => ?_) (fun u v hI nz => ?_)
    · obtain ⟨rfl, rfl⟩ := hI
      have l := itf_lt hs i k hk
      refine w_ltT (by omega) ?_
      refine w_gi (by omega) ?_
      refine w_lz ?_
      rw [nix l]
      exact hz _ _ ⟨by omega, rfl⟩
    · obtain ⟨rfl, rfl⟩ := hI
      refine w_ltF (by omega) ?_
      obtain ⟨L, L0, L5, L1, L2⟩ := per k hk
      have yl := itf_lt hs n k hk
      have cyo : ∀ f, CORNs n far f s → L % 2 = 1 := fun f c => by
        obtain ⟨L', o1, o2⟩ := c.2.2.2 k hk
        have : L = L' := CYC_u ⟨L1, L2⟩ o2 L0 (by omega)
        rw [this]
        exact o1
      generalize hy0 : itf s n k = y at L1 L2 yl
      have jl : ∀ j, itf s j y < n := fun j => itf_lt hs j y yl
      have sy := hs y yl
      refine w_gi (by omega) ?_
      rw [nix yl]
      refine w_d tf (by omega) (fun r e0 l0 u0 => ?_)
      refine w_l (fun m em => ?_)
      refine w_gi (by omega) ?_
      refine w_lz ?_
      refine w_q3 (fun j a b c => 0 < j ∧ a = (j : Int) ∧ c = ((itf s j y : Nat) : Int) ∧ ∃ A : Int, b = 2 * A ∧ -(40 * (j : Int)) ≤ A ∧ A ≤ 40 * (j : Int) ∧ ∀ f, CORNs n far f s → 2 * A = f y + (if j % 2 = 1 then f (itf s j y) else - f (itf s j y))) L 1 ⟨by omega, rfl, rfl, r, em, by omega, by omega, fun f c => ?_⟩ (by omega) (by omega) (fun j hj a b c hI nz' hz' => ?_) (fun a b c hI nz' => ?_)
      · rw [if_pos (by omega)]
        have := c.2.2.1 y yl
        unfold TI at this
        show 2 * r = f y + f (s y)
        omega
      · obtain ⟨j0, rfl, rfl, A, rfl, a1, a2, a3⟩ := hI
        have ne := L2 j j0 hj
        have zl := jl j
        refine w_eqF (by omega) ?_
        refine w_gn (by omega) ?_
        refine w_j ?_
        rw [nix zl]
        have sz : s (itf s j y) < n := hs _ zl
        have d1 := tf (itf s j y) (s (itf s j y)) (by omega) (by omega)
        have go : ∀ sg : Int, (sg = 2 ∨ sg = -2) → (sg = 2 ↔ (j + 1) % 2 = 1) → wp (grd (iin ((itf s j y : Nat) : Int) 5) (bd1 (f_X9_d ((itf s j y : Nat) : Int) ((s (itf s j y) : Nat) : Int) far) (fun r117 => lv (2 * A + sg * r117) (fun x122 => grd (iin ((itf s j y : Nat) : Int) 5) (lv ((s (itf s j y) : Nat) : Int) (fun x131 => nz' ((j : Int) + 1) x122 x131)))))) (fun o => (o.1 = 0 ∨ o.1 = 1) ∧ (o.1 = 1 → CORN n far o.2) ∧ ∀ f, CORNs n far f s → o.1 = 1 ∧ ∀ x, x < n → o.2 x = f x) := by
          intro sg hsg hiff
          refine w_gi (by omega) ?_
          refine w_d tf (by omega) (fun r1 e1 l1 u1 => ?_)
          refine w_l (fun m2 em2 => ?_)
          refine w_gi (by omega) ?_
          refine w_lz ?_
          refine hz' _ _ _ ⟨by omega, by omega, rfl, (if sg = 2 then A + r1 else A - r1), ?_, ?_, ?_, fun f c => ?_⟩
          · rcases hsg with h | h
            · rw [if_pos h, em2, h]
              omega
            · rw [if_neg (by omega), em2, h]
              omega
          · split <;> omega
          · split <;> omega
          · have tz := c.2.2.1 _ zl
            have a4 := a3 f c
            unfold TI at tz
            show 2 * (if sg = 2 then A + r1 else A - r1) = f y + (if (j + 1) % 2 = 1 then f (s (itf s j y)) else - f (s (itf s j y)))
            by_cases h : sg = 2
            · have p1 := hiff.mp h
              rw [if_pos h, if_pos p1]
              rw [if_neg (by omega)] at a4
              omega
            · have p1 : ¬ (j + 1) % 2 = 1 := fun q => h (hiff.mpr q)
              rw [if_neg h, if_neg p1]
              rw [if_pos (by omega)] at a4
              omega
        rw [show ((j : Int) + 1) = ((j + 1 : Nat) : Int) by omega, rem2 (by omega)]
        refine w_eq (by omega) (fun c1 => ?_) (fun c1 => ?_)
        · exact go 2 (Or.inl rfl) ⟨fun _ => by omega, fun _ => rfl⟩
        · exact go (-2) (Or.inr rfl) ⟨fun q => by omega, fun q => by omega⟩
      · obtain ⟨j0, rfl, rfl, A, rfl, a1, a2, a3⟩ := hI
        refine w_eqT (by rw [L1]) ?_
        refine w_gn (by omega) ?_
        rw [rem2 (by omega)]
        refine w_eq (by omega) (fun c1 => w_s ⟨Or.inl rfl, fun q => absurd (show (0 : Int) = 1 from q) (by decide), fun f c => ?_⟩) (fun c1 => ?_)
        · have := cyo f c
          omega
        · refine w_gn (by omega) ?_
          refine w_lz ?_
          refine w_gi (by omega) ?_
          rw [div2 (by omega), ix_nat (show y < 2147483648 by omega)]
          have val : ∀ f, CORNs n far f s → A = f y := fun f c => by
            have := a3 f c
            rw [if_pos (cyo f c), L1] at this
            omega
          refine hy _ _ ⟨by omega, fun p hp => ?_, fa_s r2 ⟨L, by omega, L5, by rw [CYC, hy0]; exact ⟨L1, L2⟩⟩, fun f c => ⟨fun p hp => ?_, fun x hx => ?_⟩⟩
          · by_cases e : p = y
            · rw [e, up_eq]
              omega
            · rw [up_ne _ _ e]
              exact r1 p hp
          · by_cases e : p = y
            · rw [e, up_eq]
              exact Or.inl (val f c)
            · rw [up_ne _ _ e]
              exact (r3 f c).1 p hp
          · by_cases e : itf s n x = y
            · rw [e, up_eq]
              exact val f c
            · rw [up_ne _ _ e]
              refine (r3 f c).2 x ?_
              by_cases xk : x = k
              · rw [xk] at e
                exact absurd hy0 e
              · omega
  obtain ⟨rfl, r1, r2, r3⟩ := hI
  refine w_ltF (by omega) ?_
  refine w_q2 (fun r v t => v = (r : Int) ∧ (∀ p, p < n → -200 ≤ t p ∧ t p ≤ 200) ∧ ∀ f, CORNs n far f s → (∀ p, p < n → t p = f p ∨ t p = -1) ∧ ∀ x, x < n → t (itf s (n - r) x) = f (itf s (n - r) x)) n 0 ⟨rfl, r1, fun f c => ⟨(r3 f c).1, fun x hx => (r3 f c).2 x hx⟩⟩ (by omega) (by omega) (fun r hr v t hI nz hz => ?_) (fun v t hI nz => ?_)
  · obtain ⟨rfl, w1, w2⟩ := hI
    refine w_ltT (by omega) ?_
    refine w_q2 (fun m v t => v = (m : Int) ∧ (∀ p, p < n → -200 ≤ t p ∧ t p ≤ 200) ∧ ∀ f, CORNs n far f s → (∀ p, p < n → t p = f p ∨ t p = -1) ∧ (∀ x, x < n → t (itf s (n - r) x) = f (itf s (n - r) x)) ∧ ∀ x, x < n → itf s (n - (r + 1)) x < m → t (itf s (n - (r + 1)) x) = f (itf s (n - (r + 1)) x)) n 0 ⟨rfl, w1, fun f c => ⟨(w2 f c).1, (w2 f c).2, fun x _ q => absurd q (Nat.not_lt_zero _)⟩⟩ (by omega) (by omega) (fun m hm v t hI nw hw => ?_) (fun v t hI nw => ?_)
    · obtain ⟨rfl, x1, x2⟩ := hI
      have sm' := hs m hm
      have bm := x1 m hm
      have bs := x1 (s m) sm'
      refine w_ltT (by omega) ?_
      refine w_gi (by omega) ?_
      refine w_j ?_
      refine w_j ?_
      rw [nix hm, ix_nat (show m < 2147483648 by omega), ix_nat (show s m < 2147483648 by omega)]
      have go : ∀ V : Int, -200 ≤ V → V ≤ 200 → (∀ f, CORNs n far f s → (V = f m ∨ V = -1) ∧ (t (s m) = f (s m) → V = f m) ∧ (t m = f m → V = f m)) → wp (grd (iin (m : Int) 6) (nw ((m : Int) + 1) (up t m V))) (fun o => (o.1 = 0 ∨ o.1 = 1) ∧ (o.1 = 1 → CORN n far o.2) ∧ ∀ f, CORNs n far f s → o.1 = 1 ∧ ∀ x, x < n → o.2 x = f x) := by
        intro V v1 v2 v3
        refine w_gi (by omega) ?_
        refine hw _ _ ⟨by omega, fun p hp => ?_, fun f c => ⟨fun p hp => ?_, fun x hx => ?_, fun x hx q => ?_⟩⟩
        · by_cases e : p = m
          · rw [e, up_eq]
            exact ⟨v1, v2⟩
          · rw [up_ne _ _ e]
            exact x1 p hp
        · by_cases e : p = m
          · rw [e, up_eq]
            exact (v3 f c).1
          · rw [up_ne _ _ e]
            exact (x2 f c).1 p hp
        · have h := (x2 f c).2.1 x hx
          by_cases e : itf s (n - r) x = m
          · rw [e, up_eq]
            rw [e] at h
            exact (v3 f c).2.2 h
          · rw [up_ne _ _ e]
            exact h
        · by_cases e : itf s (n - (r + 1)) x = m
          · rw [e, up_eq]
            have h := (x2 f c).2.1 x hx
            have st : itf s (n - r) x = s m := by
              rw [show n - r = (n - (r + 1)) + 1 by omega]
              show s (itf s (n - (r + 1)) x) = s m
              rw [e]
            rw [st] at h
            exact (v3 f c).2.1 h
          · rw [up_ne _ _ e]
            exact (x2 f c).2.2 x hx (by omega)
      have keep : (0 ≤ t m ∨ t (s m) < 0) → wp (grd (iin (m : Int) 6) (grd (iin (m : Int) 6) (nw ((m : Int) + 1) (up t m (t m))))) (fun o => (o.1 = 0 ∨ o.1 = 1) ∧ (o.1 = 1 → CORN n far o.2) ∧ ∀ f, CORNs n far f s → o.1 = 1 ∧ ∀ x, x < n → o.2 x = f x) := by
        intro h
        refine w_gi (by omega) ?_
        refine go (t m) bm.1 bm.2 (fun f c => ⟨(x2 f c).1 m hm, fun q => ?_, fun q => q⟩)
        have := pos c (s m) sm'
        rcases (x2 f c).1 m hm with w | w
        · exact w
        · omega
      refine w_lt (by omega) (fun c1 => ?_) (fun c1 => keep (Or.inl c1))
      refine w_gi (by omega) ?_
      refine w_gi (by omega) ?_
      refine w_lt (by omega) (fun c2 => keep (Or.inr c2)) (fun c2 => ?_)
      refine w_gi (by omega) ?_
      refine w_d tf (by omega) (fun r1 e1 l1 u1 => ?_)
      refine w_gi (by omega) ?_
      refine w_gi (by omega) ?_
      refine go (2 * r1 - t (s m)) (by omega) (by omega) (fun f c => ?_)
      have tz := c.2.2.1 m hm
      unfold TI at tz
      have e2 : t (s m) = f (s m) := by
        rcases (x2 f c).1 (s m) sm' with w | w
        · exact w
        · omega
      have : 2 * r1 - t (s m) = f m := by omega
      exact ⟨Or.inl this, fun _ => this, fun _ => this⟩
    · obtain ⟨rfl, x1, x2⟩ := hI
      refine w_ltF (by omega) ?_
      exact hz _ _ ⟨by omega, x1, fun f c => ⟨(x2 f c).1, fun x hx => (x2 f c).2.2 x hx (itf_lt hs _ x hx)⟩⟩
  obtain ⟨rfl, w1, w2⟩ := hI
  refine w_ltF (by omega) ?_
  have done : ∀ f, CORNs n far f s → ∀ x, x < n → t x = f x := fun f c x hx => by
    have := (w2 f c).2 x hx
    rw [Nat.sub_self] at this
    exact this
  refine w_q1 (fun k v => v = (k : Int) ∧ ∀ x, x < k → 0 ≤ t x ∧ TI far t x (s x)) n 0 ⟨rfl, fa_0⟩ (by omega) (by omega) (fun k hk v hI nw hw => ?_) (fun v hI nw => ?_)
  · obtain ⟨rfl, x1⟩ := hI
    have sk := hs k hk
    have bk := w1 k hk
    have bs := w1 (s k) sk
    refine w_ltT (by omega) ?_
    refine w_gi (by omega) ?_
    refine w_j ?_
    rw [nix hk, ix_nat (show k < 2147483648 by omega), ix_nat (show s k < 2147483648 by omega)]
    refine w_lt (by omega) (fun c1 => w_s ⟨Or.inl rfl, fun q => absurd (show (0 : Int) = 1 from q) (by decide), fun f c => ?_⟩) (fun c1 => ?_)
    · have := done f c k hk
      have := pos c k hk
      omega
    refine w_gi (by omega) ?_
    refine w_gi (by omega) ?_
    refine w_gi (by omega) ?_
    refine w_gi (by omega) ?_
    refine w_d tf (by omega) (fun r1 e1 l1 u1 => ?_)
    refine w_eq (by omega) (fun c2 => hw _ ⟨by omega, fa_s x1 ⟨c1, by unfold TI; omega⟩⟩) (fun c2 => w_s ⟨Or.inl rfl, fun q => absurd (show (0 : Int) = 1 from q) (by decide), fun f c => ?_⟩)
    have a := done f c k hk
    have b := done f c (s k) sk
    have tz := c.2.2.1 k hk
    unfold TI at tz
    omega
  obtain ⟨rfl, x1⟩ := hI
  refine w_ltF (by omega) ?_
  have f8 : F80 n t := fun x hx => by
    have a := x1 x hx
    have b := x1 (s x) (hs x hx)
    have := tf x (s x) (by omega) (by have := hs x hx; omega)
    have t1 := a.2
    unfold TI at t1
    omega
  refine w_b1 (keeps_X9 (a := 0) (N := 6) (f := t) h5 tf (fun x hx => by have := f8 x hx; omega) (fun x _ => by rw [Nat.zero_add]) (by omega)) (fun r hr => ?_)
  refine w_gI hr ?_
  refine w_s ⟨bI_or hr, fun q => ?_, fun f c => ⟨?_, done f c⟩⟩
  · rcases hr with ⟨_, K⟩ | ⟨z, _⟩
    · exact ⟨f8, K, s, fun x hx => ⟨hs x hx, (x1 x hx).2⟩, r2⟩
    · have : r = 1 := q
      omega
  · rcases hr with ⟨z, K⟩ | ⟨z, nK⟩
    · exact z
    · exact absurd ((KEEP_ag Ag_re (done f c)).mpr c.2.1) nK
