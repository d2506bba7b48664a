/-! PURE PART: what bars a table; trees -/
def Br (g : Nat → Int) (x y z : Nat) : Prop := g (5 * x + y) + g (5 * y + z) < g (5 * x + z)
def FB (P : Nat → Nat → Nat → Prop) (n : Nat) (r : Int) : Prop := (r = -5 ∧ ∀ x, x < n → ∀ y, y < n → ∀ z, z < n → ¬ P x y z) ∨ ∃ x y z : Nat, x < n ∧ y < n ∧ z < n ∧ r = 100 * (x : Int) + 10 * (y : Int) + (z : Int) ∧ P x y z ∧ (∀ x', x' < x → ∀ y', y' < n → ∀ z', z' < n → ¬ P x' y' z') ∧ (∀ y', y' < y → ∀ z', z' < n → ¬ P x y' z') ∧ ∀ z', z' < z → ¬ P x y z'
theorem barred_X4 {n : Nat} {g : Nat → Int} (h5 : n ≤ 5) (tg : Tb g) : wp (f_X4_firstBarred n g) (FB (fun x y z => x < z ∧ Br g x y z) n) := by
  unfold f_X4_firstBarred
  refine w_q1 (fun k v => v = (k : Int) ∧ ∀ x, x < k → ∀ y, y < n → ∀ z, z < n → ¬ (x < z ∧ Br g x y z)) n 0 ⟨rfl, fa_0⟩ (by omega) (by omega) (fun k hk v hI nx hn => ?_) (fun v hI nx => ?_)
  · obtain ⟨rfl, t1⟩ := hI
    refine w_ltT (by omega) ?_
    refine w_q1 (fun m v => v = (m : Int) ∧ ∀ y, y < m → ∀ z, z < n → ¬ (k < z ∧ Br g k y z)) n 0 ⟨rfl, fa_0⟩ (by omega) (by omega) (fun m hm v hI ny hy => ?_) (fun v hI ny => ?_)
    · obtain ⟨rfl, t2⟩ := hI
      refine w_ltT (by omega) ?_
      refine w_l (fun x hx => ?_)
      refine w_q1 (fun l v => v = (l : Int) ∧ k < l ∧ ∀ z, z < l → ¬ (k < z ∧ Br g k m z)) n (k + 1) ⟨by omega, by omega, fun z hz c => absurd c.1 (by omega)⟩ (by omega) (by omega) (fun l hl v hI nz hz => ?_) (fun v hI nz => ?_)
      · obtain ⟨rfl, t0, t3⟩ := hI
        repeat' (first | with_reducible refine w_l (fun _ _ => ?_) | with_reducible refine w_j ?_ | with_reducible refine w_gB ?_ | with_reducible refine w_g0 ?_ | with_reducible refine w_g1 ?_ | with_reducible refine w_gi (by omega) ?_ | with_reducible refine w_ltT (by omega) ?_ | with_reducible refine w_ltF (by omega) ?_ | with_reducible refine w_lt (by omega) (fun _ => ?_) (fun _ => ?_) | with_reducible refine w_eqT (by omega) ?_ | with_reducible refine w_eqF (by omega) ?_ | with_reducible refine w_eq (by omega) (fun _ => ?_) (fun _ => ?_) | with_reducible refine w_gap (by assumption) (by omega) (fun _ _ _ _ => ?_) | with_reducible refine w_d (by assumption) (by omega) (fun _ _ _ _ => ?_) | with_reducible refine w_bI (by assumption) (fun _ _ => ?_) (fun _ _ => ?_) | with_reducible refine w_gI (by assumption) ?_ | with_reducible refine w_gn (by omega) ?_)
        · refine w_s (Or.inr ⟨k, m, l, hk, hm, hl, rfl, ⟨t0, ?_⟩, t1, t2, t3⟩)
          unfold Br
          omega
        · refine hz _ ⟨by omega, by omega, fa_s t3 (fun c => ?_)⟩
          have := c.2
          unfold Br at this
          omega
      · obtain ⟨rfl, t0, t3⟩ := hI
        refine w_ltF (by omega) ?_
        exact hy _ ⟨by omega, fa_s t2 t3⟩
    · obtain ⟨rfl, t2⟩ := hI
      refine w_ltF (by omega) ?_
      exact hn _ ⟨by omega, fa_s t1 t2⟩
  · obtain ⟨rfl, t1⟩ := hI
    refine w_ltF (by omega) ?_
    exact w_s (Or.inl ⟨rfl, t1⟩)
theorem barred_X9 {n : Nat} {g : Nat → Int} (h5 : n ≤ 5) (tg : Tb g) : wp (f_X9_barred n g) (FB (Br g) n) := by
  unfold f_X9_barred
  refine w_q1 (fun k v => v = (k : Int) ∧ ∀ x, x < k → ∀ y, y < n → ∀ z, z < n → ¬ Br g x y z) n 0 ⟨rfl, fa_0⟩ (by omega) (by omega) (fun k hk v hI nx hn => ?_) (fun v hI nx => ?_)
  · obtain ⟨rfl, t1⟩ := hI
    refine w_ltT (by omega) ?_
    refine w_q1 (fun m v => v = (m : Int) ∧ ∀ y, y < m → ∀ z, z < n → ¬ Br g k y z) n 0 ⟨rfl, fa_0⟩ (by omega) (by omega) (fun m hm v hI ny hy => ?_) (fun v hI ny => ?_)
    · obtain ⟨rfl, t2⟩ := hI
      refine w_ltT (by omega) ?_
      refine w_q1 (fun l v => v = (l : Int) ∧ ∀ z, z < l → ¬ Br g k m z) n 0 ⟨rfl, fa_0⟩ (by omega) (by omega) (fun l hl v hI nz hz => ?_) (fun v hI nz => ?_)
      · obtain ⟨rfl, t3⟩ := hI
        repeat' (first | with_reducible refine w_l (fun _ _ => ?_) | with_reducible refine w_j ?_ | with_reducible refine w_gB ?_ | with_reducible refine w_g0 ?_ | with_reducible refine w_g1 ?_ | with_reducible refine w_gi (by omega) ?_ | with_reducible refine w_ltT (by omega) ?_ | with_reducible refine w_ltF (by omega) ?_ | with_reducible refine w_lt (by omega) (fun _ => ?_) (fun _ => ?_) | with_reducible refine w_eqT (by omega) ?_ | with_reducible refine w_eqF (by omega) ?_ | with_reducible refine w_eq (by omega) (fun _ => ?_) (fun _ => ?_) | with_reducible refine w_gap (by assumption) (by omega) (fun _ _ _ _ => ?_) | with_reducible refine w_d (by assumption) (by omega) (fun _ _ _ _ => ?_) | with_reducible refine w_bI (by assumption) (fun _ _ => ?_) (fun _ _ => ?_) | with_reducible refine w_gI (by assumption) ?_ | with_reducible refine w_gn (by omega) ?_)
        · refine w_s (Or.inr ⟨k, m, l, hk, hm, hl, rfl, ?_, t1, t2, t3⟩)
          unfold Br
          omega
        · refine hz _ ⟨by omega, fa_s t3 (fun c => ?_)⟩
          unfold Br at c
          omega
      · obtain ⟨rfl, t3⟩ := hI
        refine w_ltF (by omega) ?_
        exact hy _ ⟨by omega, fa_s t2 t3⟩
    · obtain ⟨rfl, t2⟩ := hI
      refine w_ltF (by omega) ?_
      exact hn _ ⟨by omega, fa_s t1 t2⟩
  · obtain ⟨rfl, t1⟩ := hI
    refine w_ltF (by omega) ?_
    exact w_s (Or.inl ⟨rfl, t1⟩)
theorem Br_sym {g : Nat → Int} (tg : Tb g) {x y z : Nat} (hx : x < 5) (hy : y < 5) (hz : z < 5) (h : Br g x y z) : Br g z y x := by
  unfold Br at *
  have a := (tg x y hx hy).2.2.1
  have b := (tg y z hy hz).2.2.1
  have c := (tg x z hx hz).2.2.1
  omega
theorem Br_irr {g : Nat → Int} (tg : Tb g) {x y : Nat} (hx : x < 5) (hy : y < 5) : ¬ Br g x y x := by
  unfold Br
  have a := tg x y hx hy
  have b := tg y x hy hx
  omega
theorem FB_same {g : Nat → Int} {n : Nat} (h5 : n ≤ 5) (tg : Tb g) {r : Int} (h : FB (fun x y z => x < z ∧ Br g x y z) n r) : FB (Br g) n r := by
  rcases h with ⟨h1, h2⟩ | ⟨x, y, z, hx, hy, hz, hr, ⟨p1, p2⟩, q1, q2, q3⟩
  · refine Or.inl ⟨h1, fun x hx y hy z hz c => ?_⟩
    by_cases l : x < z
    · exact h2 x hx y hy z hz ⟨l, c⟩
    · by_cases e : x = z
      · subst e
        exact Br_irr tg (by omega) (by omega) c
      · exact h2 z hz y hy x hx ⟨by omega, Br_sym tg (by omega) (by omega) (by omega) c⟩
  · refine Or.inr ⟨x, y, z, hx, hy, hz, hr, p2, fun x' a y' b z' d c => ?_, fun y' b z' d c => ?_, fun z' d c => ?_⟩
    · by_cases l : x' < z'
      · exact q1 x' a y' b z' d ⟨l, c⟩
      · by_cases e : x' = z'
        · subst e
          exact Br_irr tg (by omega) (by omega) c
        · exact q1 z' (by omega) y' b x' (by omega) ⟨by omega, Br_sym tg (by omega) (by omega) (by omega) c⟩
    · by_cases l : x < z'
      · exact q2 y' b z' d ⟨l, c⟩
      · by_cases e : x = z'
        · subst e
          exact Br_irr tg (by omega) (by omega) c
        · exact q1 z' (by omega) y' (by omega) x hx ⟨by omega, Br_sym tg (by omega) (by omega) (by omega) c⟩
    · by_cases l : x < z'
      · exact q3 z' d ⟨l, c⟩
      · by_cases e : x = z'
        · subst e
          exact Br_irr tg (by omega) (by omega) c
        · exact q1 z' (by omega) y hy x hx ⟨by omega, Br_sym tg (by omega) (by omega) (by omega) c⟩
theorem FB_u {P : Nat → Nat → Nat → Prop} {n : Nat} {r s : Int} (h : FB P n r) (k : FB P n s) : r = s := by
  rcases h with ⟨h1, h2⟩ | ⟨x, y, z, hx, hy, hz, hr, p, q1, q2, q3⟩ <;> rcases k with ⟨k1, k2⟩ | ⟨x', y', z', hx', hy', hz', hr', p', q1', q2', q3'⟩
  · rw [h1, k1]
  · exact absurd p' (h2 x' hx' y' hy' z' hz')
  · exact absurd p (k2 x hx y hy z hz)
  · have a1 : ¬ x < x' := fun l => q1' x l y hy z hz p
    have a2 : ¬ x' < x := fun l => q1 x' l y' hy' z' hz' p'
    have ex : x = x' := by omega
    subst ex
    have b1 : ¬ y < y' := fun l => q2' y l z hz p
    have b2 : ¬ y' < y := fun l => q2 y' l z' hz' p'
    have ey : y = y' := by omega
    subst ey
    have c1 : ¬ z < z' := fun l => q3' z l p
    have c2 : ¬ z' < z := fun l => q3 z' l p'
    have ez : z = z' := by omega
    subst ez
    rw [hr, hr']
theorem FB_c {P Q : Nat → Nat → Nat → Prop} {n : Nat} {r : Int} (e : ∀ x y z, x < n → y < n → z < n → (P x y z ↔ Q x y z)) (h : FB P n r) : FB Q n r := by
  rcases h with ⟨h1, h2⟩ | ⟨x, y, z, hx, hy, hz, hr, p, q1, q2, q3⟩
  · exact Or.inl ⟨h1, fun x hx y hy z hz c => h2 x hx y hy z hz ((e x y z hx hy hz).mpr c)⟩
  · exact Or.inr ⟨x, y, z, hx, hy, hz, hr, (e x y z hx hy hz).mp p, fun x' a y' b z' d c => q1 x' a y' b z' d ((e x' y' z' (by omega) b d).mpr c), fun y' b z' d c => q2 y' b z' d ((e x y' z' hx (by omega) d).mpr c), fun z' d c => q3 z' d ((e x y z' hx hy (by omega)).mpr c)⟩
/-- it is a table -/
def TAB (n : Nat) (g : Nat → Int) : Prop := ∀ x, x < n → ∀ y, y < n → ∀ z, z < n → ¬ Br g x y z
theorem FB_tab {g : Nat → Int} {n : Nat} {r : Int} (h5 : n ≤ 5) (h : FB (Br g) n r) : (r = -5 ∧ TAB n g) ∨ (0 ≤ r ∧ r ≤ 555 ∧ ¬ TAB n g) := by
  rcases h with ⟨h1, h2⟩ | ⟨x, y, z, hx, hy, hz, hr, p, q1, q2, q3⟩
  · exact Or.inl ⟨h1, h2⟩
  · exact Or.inr ⟨by omega, by omega, fun c => c x hx y hy z hz p⟩
theorem Br_ag {n : Nat} {g far : Nat → Int} (ag : Ag n g far) {x y z : Nat} (hx : x < n) (hy : y < n) (hz : z < n) : Br g x y z ↔ Br far x y z := by
  unfold Br
  rw [ag x y (by omega) (by omega), ag y z (by omega) (by omega), ag x z (by omega) (by omega)]
theorem TAB_ag {n : Nat} {g far : Nat → Int} (ag : Ag n g far) : TAB n g ↔ TAB n far := by
  refine ⟨fun h x hx y hy z hz c => h x hx y hy z hz ((Br_ag ag hx hy hz).mpr c), fun h x hx y hy z hz c => h x hx y hy z hz ((Br_ag ag hx hy hz).mp c)⟩
theorem isTable_X4 {n : Nat} {g : Nat → Int} (h5 : n ≤ 5) (tg : Tb g) : wp (f_X4_isTable n g) (fun r => bI r (TAB n g)) := by
  unfold f_X4_isTable
  refine w_b1 (barred_X4 h5 tg) (fun r hr => ?_)
  have := FB_tab h5 (FB_same h5 tg hr)
  repeat' (first | with_reducible refine w_l (fun _ _ => ?_) | with_reducible refine w_j ?_ | with_reducible refine w_gB ?_ | with_reducible refine w_g0 ?_ | with_reducible refine w_g1 ?_ | with_reducible refine w_gi (by omega) ?_ | with_reducible refine w_ltT (by omega) ?_ | with_reducible refine w_ltF (by omega) ?_ | with_reducible refine w_lt (by omega) (fun _ => ?_) (fun _ => ?_) | with_reducible refine w_eqT (by omega) ?_ | with_reducible refine w_eqF (by omega) ?_ | with_reducible refine w_eq (by omega) (fun _ => ?_) (fun _ => ?_) | with_reducible refine w_gap (by assumption) (by omega) (fun _ _ _ _ => ?_) | with_reducible refine w_d (by assumption) (by omega) (fun _ _ _ _ => ?_) | with_reducible refine w_bI (by assumption) (fun _ _ => ?_) (fun _ _ => ?_) | with_reducible refine w_gI (by assumption) ?_ | with_reducible refine w_gn (by omega) ?_)
  · exact w_s (bI_1 (by rcases this with q | q; exact q.2; omega))
  · exact w_s (bI_0 (by rcases this with q | q; omega; exact q.2.2))
/-- of four the two greatest sums are alike -/
def Four (g : Nat → Int) (a b c d : Nat) : Prop := (g (5 * a + b) + g (5 * c + d) = g (5 * a + c) + g (5 * b + d) ∧ g (5 * a + d) + g (5 * b + c) ≤ g (5 * a + b) + g (5 * c + d)) ∨ (g (5 * a + b) + g (5 * c + d) = g (5 * a + d) + g (5 * b + c) ∧ g (5 * a + c) + g (5 * b + d) ≤ g (5 * a + b) + g (5 * c + d)) ∨ (g (5 * a + c) + g (5 * b + d) = g (5 * a + d) + g (5 * b + c) ∧ g (5 * a + b) + g (5 * c + d) ≤ g (5 * a + c) + g (5 * b + d))
theorem hangs_X4 {n a b c : Nat} {g : Nat → Int} (h5 : n ≤ 5) (tg : Tb g) (ha : a < n) (hb : b < n) (hc : c < n) : wp (f_X4_hangsWithAll a b c n g) (fun r => bI r (∀ d, d < n → c < d → Four g a b c d)) := by
  unfold f_X4_hangsWithAll
  refine w_l (fun x hx => ?_)
  refine w_q1 (fun k v => v = (k : Int) ∧ c < k ∧ ∀ d, d < k → c < d → Four g a b c d) n (c + 1) ⟨by omega, by omega, fun d hd q => absurd q (by omega)⟩ (by omega) (by omega) (fun k hk v hI nx hn => ?_) (fun v hI nx => ?_)
  · obtain ⟨rfl, ck, t1⟩ := hI
    refine w_ltT (by omega) ?_
    refine w_gap tg (by omega) (fun s1 e1 l1 u1 => ?_)
    refine w_gap tg (by omega) (fun s2 e2 l2 u2 => ?_)
    refine w_l (fun x1 hx1 => ?_)
    refine w_gap tg (by omega) (fun s3 e3 l3 u3 => ?_)
    refine w_gap tg (by omega) (fun s4 e4 l4 u4 => ?_)
    refine w_l (fun x2 hx2 => ?_)
    refine w_gap tg (by omega) (fun s5 e5 l5 u5 => ?_)
    refine w_gap tg (by omega) (fun s6 e6 l6 u6 => ?_)
    refine w_l (fun x3 hx3 => ?_)
    have mw := maxI_w (a := x1) (b := x2) (by omega)
    generalize maxI x1 x2 = mm at mw ⊢
    repeat' (first | with_reducible refine w_l (fun _ _ => ?_) | with_reducible refine w_j ?_ | with_reducible refine w_gB ?_ | with_reducible refine w_g0 ?_ | with_reducible refine w_g1 ?_ | with_reducible refine w_gi (by omega) ?_ | with_reducible refine w_ltT (by omega) ?_ | with_reducible refine w_ltF (by omega) ?_ | with_reducible refine w_lt (by omega) (fun _ => ?_) (fun _ => ?_) | with_reducible refine w_eqT (by omega) ?_ | with_reducible refine w_eqF (by omega) ?_ | with_reducible refine w_eq (by omega) (fun _ => ?_) (fun _ => ?_) | with_reducible refine w_gap (by assumption) (by omega) (fun _ _ _ _ => ?_) | with_reducible refine w_d (by assumption) (by omega) (fun _ _ _ _ => ?_) | with_reducible refine w_bI (by assumption) (fun _ _ => ?_) (fun _ _ => ?_) | with_reducible refine w_gI (by assumption) ?_ | with_reducible refine w_gn (by omega) ?_)
    all_goals first
      | exact w_s (bI_0 (fun q => by
          have := q k hk ck
          unfold Four at this
          omega))
      | exact hn _ ⟨by omega, by omega, fa_s t1 (fun _ => by
          unfold Four
          omega)⟩
  · obtain ⟨rfl, ck, t1⟩ := hI
    refine w_ltF (by omega) ?_
    exact w_s (bI_1 t1)
theorem isFour_X9 {a b c d : Nat} {g : Nat → Int} (tg : Tb g) (ha : a < 5) (hb : b < 5) (hc : c < 5) (hd : d < 5) : wp (f_X9_isFour a b c d g) (fun r => bI r (Four g a b c d)) := by
  unfold f_X9_isFour
  refine w_d tg (by omega) (fun s1 e1 l1 u1 => ?_)
  refine w_d tg (by omega) (fun s2 e2 l2 u2 => ?_)
  refine w_l (fun x1 hx1 => ?_)
  refine w_d tg (by omega) (fun s3 e3 l3 u3 => ?_)
  refine w_d tg (by omega) (fun s4 e4 l4 u4 => ?_)
  refine w_l (fun x2 hx2 => ?_)
  refine w_d tg (by omega) (fun s5 e5 l5 u5 => ?_)
  refine w_d tg (by omega) (fun s6 e6 l6 u6 => ?_)
  refine w_l (fun x3 hx3 => ?_)
  have mw := maxI_w (a := x2) (b := x3) (by omega)
  generalize maxI x2 x3 = mm at mw ⊢
  have mv := maxI_w (a := x1) (b := mm) (by omega)
  generalize maxI x1 mm = mn at mv ⊢
  repeat' (first | with_reducible refine w_l (fun _ _ => ?_) | with_reducible refine w_j ?_ | with_reducible refine w_gB ?_ | with_reducible refine w_g0 ?_ | with_reducible refine w_g1 ?_ | with_reducible refine w_gi (by omega) ?_ | with_reducible refine w_ltT (by omega) ?_ | with_reducible refine w_ltF (by omega) ?_ | with_reducible refine w_lt (by omega) (fun _ => ?_) (fun _ => ?_) | with_reducible refine w_eqT (by omega) ?_ | with_reducible refine w_eqF (by omega) ?_ | with_reducible refine w_eq (by omega) (fun _ => ?_) (fun _ => ?_) | with_reducible refine w_gap (by assumption) (by omega) (fun _ _ _ _ => ?_) | with_reducible refine w_d (by assumption) (by omega) (fun _ _ _ _ => ?_) | with_reducible refine w_bI (by assumption) (fun _ _ => ?_) (fun _ _ => ?_) | with_reducible refine w_gI (by assumption) ?_ | with_reducible refine w_gn (by omega) ?_)
  all_goals first
    | exact w_s (bI_0 (fun q => by
        unfold Four at q
        omega))
    | exact w_s (bI_1 (by
        unfold Four
        omega))
theorem isTree_X4 {n : Nat} {g : Nat → Int} (h5 : n ≤ 5) (tg : Tb g) : wp (f_X4_isTree n g) (fun r => bI r (TAB n g ∧ ∀ a, a < n → ∀ b, b < n → a < b → ∀ c, c < n → b < c → ∀ d, d < n → c < d → Four g a b c d)) := by
  unfold f_X4_isTree
  refine w_b1 (isTable_X4 h5 tg) (fun r hr => ?_)
  refine w_bI hr (fun nt _ => w_s (bI_0 (fun q => nt q.1))) (fun tt _ => ?_)
  refine w_q1 (fun k v => v = (k : Int) ∧ ∀ a, a < k → ∀ b, b < n → a < b → ∀ c, c < n → b < c → ∀ d, d < n → c < d → Four g a b c d) n 0 ⟨rfl, fa_0⟩ (by omega) (by omega) (fun k hk v hI nx hn => ?_) (fun v hI nx => ?_)
  · obtain ⟨rfl, t1⟩ := hI
    refine w_ltT (by omega) ?_
    refine w_l (fun x hx => ?_)
    refine w_q1 (fun m v => v = (m : Int) ∧ k < m ∧ ∀ b, b < m → k < b → ∀ c, c < n → b < c → ∀ d, d < n → c < d → Four g k b c d) n (k + 1) ⟨by omega, by omega, fun b hb q => absurd q (by omega)⟩ (by omega) (by omega) (fun m hm v hI ny hy => ?_) (fun v hI ny => ?_)
    · obtain ⟨rfl, km, t2⟩ := hI
      refine w_ltT (by omega) ?_
      refine w_l (fun y hy' => ?_)
      refine w_q1 (fun l v => v = (l : Int) ∧ m < l ∧ ∀ c, c < l → m < c → ∀ d, d < n → c < d → Four g k m c d) n (m + 1) ⟨by omega, by omega, fun b hb q => absurd q (by omega)⟩ (by omega) (by omega) (fun l hl v hI nz hz => ?_) (fun v hI nz => ?_)
      · obtain ⟨rfl, ml, t3⟩ := hI
        refine w_ltT (by omega) ?_
        refine w_b1 (hangs_X4 h5 tg hk hm hl) (fun s hs => ?_)
        refine w_bI hs (fun nf _ => w_s (bI_0 (fun q => nf (q.2 k hk m hm km l hl ml)))) (fun yf _ => ?_)
        exact hz _ ⟨by omega, by omega, fa_s t3 (fun _ => yf)⟩
      · obtain ⟨rfl, ml, t3⟩ := hI
        refine w_ltF (by omega) ?_
        exact hy _ ⟨by omega, by omega, fa_s t2 (fun _ => t3)⟩
    · obtain ⟨rfl, km, t2⟩ := hI
      refine w_ltF (by omega) ?_
      exact hn _ ⟨by omega, fa_s t1 t2⟩
  · obtain ⟨rfl, t1⟩ := hI
    refine w_ltF (by omega) ?_
    exact w_s (bI_1 ⟨tt, t1⟩)
theorem isTree_X9 {n : Nat} {g : Nat → Int} (h5 : n ≤ 5) (tg : Tb g) : wp (f_X9_isTree n g) (fun r => bI r (TAB n g ∧ ∀ a, a < n → ∀ b, b < a → ∀ c, c < b → ∀ d, d < c → Four g a b c d)) := by
  unfold f_X9_isTree
  refine w_q1 (fun k v => v = (k : Int) ∧ ∀ a, a < k → ∀ b, b < a → ∀ c, c < b → ∀ d, d < c → Four g a b c d) n 0 ⟨rfl, fa_0⟩ (by omega) (by omega) (fun k hk v hI nx hn => ?_) (fun v hI nx => ?_)
  · obtain ⟨rfl, t1⟩ := hI
    refine w_ltT (by omega) ?_
    refine w_q1 (fun m v => v = (m : Int) ∧ ∀ b, b < m → ∀ c, c < b → ∀ d, d < c → Four g k b c d) k 0 ⟨rfl, fa_0⟩ (by omega) (by omega) (fun m hm v hI ny hy => ?_) (fun v hI ny => ?_)
    · obtain ⟨rfl, t2⟩ := hI
      refine w_ltT (by omega) ?_
      refine w_q1 (fun l v => v = (l : Int) ∧ ∀ c, c < l → ∀ d, d < c → Four g k m c d) m 0 ⟨rfl, fa_0⟩ (by omega) (by omega) (fun l hl v hI nz hz => ?_) (fun v hI nz => ?_)
      · obtain ⟨rfl, t3⟩ := hI
        refine w_ltT (by omega) ?_
        refine w_q1 (fun i v => v = (i : Int) ∧ ∀ d, d < i → Four g k m l d) l 0 ⟨rfl, fa_0⟩ (by omega) (by omega) (fun i hi v hI nw hw => ?_) (fun v hI nw => ?_)
        · obtain ⟨rfl, t4⟩ := hI
          refine w_ltT (by omega) ?_
          refine w_b1 (isFour_X9 tg (by omega) (by omega) (by omega) (by omega)) (fun s hs => ?_)
          refine w_bI hs (fun nf _ => w_s (bI_0 (fun q => nf (q.2 k hk m hm l hl i hi)))) (fun yf _ => ?_)
          exact hw _ ⟨by omega, fa_s t4 yf⟩
        · obtain ⟨rfl, t4⟩ := hI
          refine w_ltF (by omega) ?_
          exact hz _ ⟨by omega, fa_s t3 t4⟩
      · obtain ⟨rfl, t3⟩ := hI
        refine w_ltF (by omega) ?_
        exact hy _ ⟨by omega, fa_s t2 t3⟩
    · obtain ⟨rfl, t2⟩ := hI
      refine w_ltF (by omega) ?_
      exact hn _ ⟨by omega, fa_s t1 t2⟩
  · obtain ⟨rfl, t1⟩ := hI
    refine w_ltF (by omega) ?_
    refine w_b1 (barred_X9 h5 tg) (fun r hr => ?_)
    have := FB_tab h5 hr
    repeat' (first | with_reducible refine w_l (fun _ _ => ?_) | with_reducible refine w_j ?_ | with_reducible refine w_gB ?_ | with_reducible refine w_g0 ?_ | with_reducible refine w_g1 ?_ | with_reducible refine w_gi (by omega) ?_ | with_reducible refine w_ltT (by omega) ?_ | with_reducible refine w_ltF (by omega) ?_ | with_reducible refine w_lt (by omega) (fun _ => ?_) (fun _ => ?_) | with_reducible refine w_eqT (by omega) ?_ | with_reducible refine w_eqF (by omega) ?_ | with_reducible refine w_eq (by omega) (fun _ => ?_) (fun _ => ?_) | with_reducible refine w_gap (by assumption) (by omega) (fun _ _ _ _ => ?_) | with_reducible refine w_d (by assumption) (by omega) (fun _ _ _ _ => ?_) | with_reducible refine w_bI (by assumption) (fun _ _ => ?_) (fun _ _ => ?_) | with_reducible refine w_gI (by assumption) ?_ | with_reducible refine w_gn (by omega) ?_)
    · exact w_s (bI_1 ⟨by rcases this with q | q; exact q.2; omega, t1⟩)
    · exact w_s (bI_0 (fun c => by rcases this with q | q; omega; exact q.2.2 c.1))
theorem Four_ag {n : Nat} {g far : Nat → Int} (h5 : n ≤ 5) (ag : Ag n g far) (tf : Tb far) {a b c d : Nat} (ha : a < n) (hb : b < n) (hc : c < n) (hd : d < n) : Four g a b c d ↔ Four far d c b a := by
  unfold Four
  rw [ag a b (by omega) (by omega), ag c d (by omega) (by omega), ag a c (by omega) (by omega), ag b d (by omega) (by omega), ag a d (by omega) (by omega), ag b c (by omega) (by omega)]
  rw [(tf a b (by omega) (by omega)).2.2.1, (tf c d (by omega) (by omega)).2.2.1, (tf a c (by omega) (by omega)).2.2.1, (tf b d (by omega) (by omega)).2.2.1, (tf a d (by omega) (by omega)).2.2.1, (tf b c (by omega) (by omega)).2.2.1]
  omega
theorem isTree_same {n : Nat} {g far : Nat → Int} (h5 : n ≤ 5) (tg : Tb g) (tf : Tb far) (ag : Ag n g far) : ∃ r, f_X4_isTree n g = some r ∧ f_X9_isTree n far = some r ∧ (r = 0 ∨ r = 1) := by
  refine wp_two (isTree_X4 h5 tg) (isTree_X9 h5 tf) (fun a b e1 e2 p q => ?_)
  have e : a = b := bI_u p (bI_c q ⟨fun h => ⟨(TAB_ag ag).mpr h.1, fun a ha b hb ab c hc bc d hd cd => (Four_ag h5 ag tf ha hb hc hd).mpr (h.2 d hd c cd b bc a ab)⟩, fun h => ⟨(TAB_ag ag).mp h.1, fun a ha b hb c hc d hd => (Four_ag h5 ag tf (by omega) (by omega) (by omega) (by omega)).mp (h.2 d (by omega) c (by omega) hd b (by omega) hc a ha hb)⟩⟩)
  subst e
  exact ⟨a, e1, e2, by rcases p with h | h <;> omega⟩
theorem barred_same {n : Nat} {g far : Nat → Int} (h5 : n ≤ 5) (tg : Tb g) (tf : Tb far) (ag : Ag n g far) : ∃ r, f_X4_firstBarred n g = some r ∧ f_X9_barred n far = some r ∧ ((r = -5 ∧ TAB n g) ∨ (0 ≤ r ∧ r ≤ 555 ∧ ¬ TAB n g)) := by
  refine wp_two (barred_X4 h5 tg) (barred_X9 h5 tf) (fun a b e1 e2 p q => ?_)
  have p' := FB_same h5 tg p
  have e : a = b := FB_u p' (FB_c (fun x y z hx hy hz => (Br_ag ag hx hy hz).symm) q)
  subst e
  exact ⟨a, e1, e2, FB_tab h5 p'⟩
