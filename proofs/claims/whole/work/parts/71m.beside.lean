/-! PURE PART: beside one another, told by both -/
def BS (n : Nat) (far : Nat → Int) (h : Nat) (c : Nat → Nat) (a b : Nat) : Prop := a ≠ b ∧ COV n (CMp n far (cf (c a)) (cf (c b))) ∧ ∀ t, t < h → t ≠ a → t ≠ b → ¬ ∀ x y, CMp n far (cf (c a)) (cf (c b)) x y → TI far (cf (c t)) x y
theorem cell_bits {n R R' : Nat} {far f f' : Nat → Int} (h : MASK n far f R) (h' : MASK n far f' R') : R &&& R' < 2 ^ 25 ∧ ∀ x y, x < 5 → y < 5 → (bq (R &&& R') (5 * x + y) = 1 ↔ CMp n far f f' x y) := by
  refine ⟨Nat.lt_of_le_of_lt Nat.and_le_left h.1, fun x y hx hy => ?_⟩
  rw [bq_and, h.2 x y hx hy, h'.2 x y hx hy]
  exact ⟨fun q => ⟨q.1.1, q.1.2.1, q.1.2.2, q.2.2.2⟩, fun q => ⟨⟨q.1, q.2.1, q.2.2.1⟩, q.1, q.2.1, q.2.2.2⟩⟩
theorem sub_bits {n T M : Nat} {far ft f f' : Nat → Int} (h5 : n ≤ 5) (hT : MASK n far ft T) (hM : M < 2 ^ 25) (hb : ∀ x y, x < 5 → y < 5 → (bq M (5 * x + y) = 1 ↔ CMp n far f f' x y)) : T &&& M = M ↔ ∀ x y, CMp n far f f' x y → TI far ft x y := by
  constructor
  · intro e x y cm
    have hx : x < 5 := by have := cm.1; omega
    have hy : y < 5 := by have := cm.2.1; omega
    have b := (hb x y hx hy).mpr cm
    rw [← e, bq_and] at b
    exact ((hT.2 x y hx hy).mp b.1).2.2
  · intro al
    refine bq_ext (fun k => ?_)
    rw [bq_and]
    refine ⟨fun q => q.2, fun q => ⟨?_, q⟩⟩
    by_cases c : k < 25
    · have e : k = 5 * (k / 5) + k % 5 := by omega
      have cm := (hb (k / 5) (k % 5) (by omega) (by omega)).mp (by rw [← e]; exact q)
      rw [e]
      exact (hT.2 _ _ (by omega) (by omega)).mpr ⟨cm.1, cm.2.1, al _ _ cm⟩
    · rw [bq_lt hM (by omega)] at q
      omega
theorem beside_X0 {n h a b : Nat} {held : Int} {far : Nat → Int} {c : Nat → Nat} {kx : Nat → Int64} {tw : Nat → Int} (h5 : n ≤ 5) (Z : HC n far h c held kx tw) (ha : a < h) (hb : b < h) : wp (f_X0_areBeside a b held n tw) (fun r => bI r (BS n far h c a b)) := by
  obtain ⟨z1, z2, z3, z4, z5, z6⟩ := Z
  obtain ⟨Ra, ea, Ma⟩ := z5 a ha
  obtain ⟨Rb, eb, Mb⟩ := z5 b hb
  have cb := cell_bits Ma Mb
  have la := Ma.1
  have lb := Mb.1
  unfold f_X0_areBeside
  refine w_b1s (twosAt_X0 z1 ha z2) ?_
  refine w_b1s (twosAt_X0 z1 hb z2) ?_
  refine w_l (fun m em => ?_)
  rw [ea, eb, and_nat (by omega) (by omega)] at em
  generalize Ra &&& Rb = M at cb em
  subst em
  refine w_j ?_
  refine w_eq (by omega) (fun e => w_s (bI_0 (fun q => q.1 (by omega)))) (fun e => ?_)
  refine w_b1 (cover_X7 h5 cb.1) (fun r hr => ?_)
  have ce : (∀ x, x < n → ∃ y, y < 5 ∧ bq M (5 * x + y) = 1) ↔ COV n (CMp n far (cf (c a)) (cf (c b))) := by
    constructor
    · intro q x hx
      obtain ⟨y, y1, y2⟩ := q x hx
      have := (cb.2 x y (by omega) y1).mp y2
      exact ⟨y, this.2.1, this⟩
    · intro q x hx
      obtain ⟨y, y1, y2⟩ := q x hx
      exact ⟨y, by omega, (cb.2 x y (by omega) (by omega)).mpr y2⟩
  refine w_bI hr (fun no _ => w_s (bI_0 (fun q => no (ce.mpr q.2.1)))) (fun yes _ => ?_)
  rw [z1]
  refine w_q1 (fun k v => v = (k : Int) ∧ ∀ t, t < k → t ≠ a → t ≠ b → ¬ ∀ x y, CMp n far (cf (c a)) (cf (c b)) x y → TI far (cf (c t)) x y) h 0 ⟨rfl, fa_0⟩ (by omega) (by omega) (fun k hk v hI nx hn => ?_) (fun v hI nx => ?_)
  · obtain ⟨rfl, t1⟩ := hI
    obtain ⟨Rk, ek, Mk⟩ := z5 k hk
    have lk := Mk.1
    have sb := sub_bits h5 Mk cb.1 cb.2
    have lm : Rk &&& M ≤ M := Nat.and_le_right
    have lM := cb.1
    refine w_ltT (by omega) ?_
    refine w_j ?_
    refine w_eq (by omega) (fun e1 => hn _ ⟨by omega, fa_s t1 (fun q _ => absurd (by omega) q)⟩) (fun e1 => ?_)
    refine w_eq (by omega) (fun e2 => hn _ ⟨by omega, fa_s t1 (fun _ q => absurd (by omega) q)⟩) (fun e2 => ?_)
    refine w_gi (by omega) ?_
    rw [ix_nat (show k < 2147483648 by omega), ek, and_nat (by omega) (by omega)]
    refine w_eq (by omega) (fun e3 => w_s (bI_0 (fun q => q.2.2 k hk (by omega) (by omega) (sb.mp (by omega))))) (fun e3 => hn _ ⟨by omega, fa_s t1 (fun _ _ q => e3 (by rw [sb.mpr q]))⟩)
  · obtain ⟨rfl, t1⟩ := hI
    refine w_ltF (by omega) ?_
    exact w_s (bI_1 ⟨by omega, ce.mp yes, t1⟩)
theorem hasAll_X9 {n a b t : Nat} {far cor f f' ft : Nat → Int} (h5 : n ≤ 5) (tf : Tb far) (ff : FR n f) (ff' : FR n f') (fft : FR n ft) (ha : a < 300) (hb : b < 300) (ht : t < 300) (ea : ∀ x, x < n → cor (5 * a + x) = f x) (eb : ∀ x, x < n → cor (5 * b + x) = f' x) (et : ∀ x, x < n → cor (5 * t + x) = ft x) : wp (f_X9_hasAll t a b n far cor) (fun r => bI r (∀ x y, CMp n far f f' x y → TI far ft x y)) := by
  unfold f_X9_hasAll
  rw [show (5 * (a : Int)) = ((5 * a : Nat) : Int) by omega, show (5 * (b : Int)) = ((5 * b : Nat) : Int) by omega, show (5 * (t : Int)) = ((5 * t : Nat) : Int) by omega]
  refine w_q1 (fun k v => v = (k : Int) ∧ ∀ x, x < k → ∀ y, y < x + 1 → CMp n far f f' x y → TI far ft x y) n 0 ⟨rfl, fa_0⟩ (by omega) (by omega) (fun k hk v hI nx hn => ?_) (fun v hI nx => ?_)
  · obtain ⟨rfl, t1⟩ := hI
    refine w_ltT (by omega) ?_
    refine w_q1 (fun m v => v = (m : Int) ∧ ∀ y, y < m → CMp n far f f' k y → TI far ft k y) (k + 1) 0 ⟨rfl, fa_0⟩ (by omega) (by omega) (fun m hm v hI ny hy => ?_) (fun v hI ny => ?_)
    · obtain ⟨rfl, t2⟩ := hI
      refine w_ltF (by omega) ?_
      refine w_b1 (isTight_X9 h5 tf ff ea (by omega) hk (show m < n by omega)) (fun r hr => ?_)
      refine w_j ?_
      refine w_bI hr (fun nt _ => hy _ ⟨by omega, fa_s t2 (fun q => absurd q.2.2.1 nt)⟩) (fun y1 _ => ?_)
      refine w_b1 (isTight_X9 h5 tf ff' eb (by omega) hk (show m < n by omega)) (fun r2 hr2 => ?_)
      refine w_bI hr2 (fun nt _ => hy _ ⟨by omega, fa_s t2 (fun q => absurd q.2.2.2 nt)⟩) (fun y2 _ => ?_)
      refine w_b1 (isTight_X9 h5 tf fft et (by omega) hk (show m < n by omega)) (fun r3 hr3 => ?_)
      exact w_bI hr3 (fun nt _ => w_s (bI_0 (fun q => nt (q k m ⟨hk, by omega, y1, y2⟩)))) (fun y3 _ => hy _ ⟨by omega, fa_s t2 (fun _ => y3)⟩)
    · obtain ⟨rfl, t2⟩ := hI
      refine w_ltT (by omega) ?_
      exact hn _ ⟨by omega, fa_s t1 t2⟩
  · obtain ⟨rfl, t1⟩ := hI
    refine w_ltF (by omega) ?_
    refine w_s (bI_1 (fun x y cm => ?_))
    by_cases l : y ≤ x
    · exact t1 x cm.1 y (by omega) cm
    · exact TI_sym h5 tf cm.2.1 cm.1 (t1 y cm.2.1 x (by omega) (CMp_sym h5 tf cm))
theorem beside_X9 {n h a b : Nat} {held : Int} {far cor : Nat → Int} {c : Nat → Nat} (h3 : 3 ≤ n) (h5 : n ≤ 5) (tf : Tb far) (h37 : h ≤ 37) (Z : HR n h c held cor) (ha : a < h) (hb : b < h) : wp (f_X9_areBeside a b n held far cor) (fun r => bI r (BS n far h c a b)) := by
  obtain ⟨z1, z2⟩ := Z
  unfold f_X9_areBeside
  refine w_j ?_
  refine w_eq (by omega) (fun e => w_s (bI_0 (fun q => q.1 (by omega)))) (fun e => ?_)
  refine w_b1 (common_X9 h3 h5 tf (cf_r _ n) (cf_r _ n) (by omega) (by omega) (fun x hx => z2 a ha x hx) (fun x hx => z2 b hb x hx)) (fun r hr => ?_)
  have ci := CNT_in h3 h5 (CMp n far (cf (c a)) (cf (c b)))
  by_cases cv : COV n (CMp n far (cf (c a)) (cf (c b)))
  · have er := hr.1 cv
    refine w_ltF (by omega) ?_
    rw [z1]
    refine w_q1 (fun k v => v = (k : Int) ∧ ∀ t, t < k → t ≠ a → t ≠ b → ¬ ∀ x y, CMp n far (cf (c a)) (cf (c b)) x y → TI far (cf (c t)) x y) h 0 ⟨rfl, fa_0⟩ (by omega) (by omega) (fun k hk v hI nx hn => ?_) (fun v hI nx => ?_)
    · obtain ⟨rfl, t1⟩ := hI
      refine w_ltT (by omega) ?_
      refine w_j ?_
      refine w_eq (by omega) (fun e1 => hn _ ⟨by omega, fa_s t1 (fun q _ => absurd (by omega) q)⟩) (fun e1 => ?_)
      refine w_eq (by omega) (fun e2 => hn _ ⟨by omega, fa_s t1 (fun _ q => absurd (by omega) q)⟩) (fun e2 => ?_)
      refine w_b1 (hasAll_X9 h5 tf (cf_r _ n) (cf_r _ n) (cf_r _ n) (by omega) (by omega) (by omega) (fun x hx => z2 a ha x hx) (fun x hx => z2 b hb x hx) (fun x hx => z2 k hk x hx)) (fun r2 hr2 => ?_)
      exact w_bI hr2 (fun no _ => hn _ ⟨by omega, fa_s t1 (fun _ _ => no)⟩) (fun yes _ => w_s (bI_0 (fun q => q.2.2 k hk (by omega) (by omega) yes)))
    · obtain ⟨rfl, t1⟩ := hI
      refine w_ltF (by omega) ?_
      exact w_s (bI_1 ⟨by omega, cv, t1⟩)
  · have er := hr.2 cv
    refine w_ltT (by omega) ?_
    exact w_s (bI_0 (fun q => cv q.2.1))
noncomputable def NB (n : Nat) (far : Nat → Int) (h : Nat) (c : Nat → Nat) (a : Nat) : Int := sm (fun o => ind (BS n far h c a o)) h
theorem neigh_X0 {n h a : Nat} {held : Int} {far : Nat → Int} {c : Nat → Nat} {kx : Nat → Int64} {tw : Nat → Int} (h5 : n ≤ 5) (Z : HC n far h c held kx tw) (ha : a < h) : wp (f_X0_neighbours a held n tw) (fun r => r = NB n far h c a) := by
  have z1 := Z.1
  have z2 := Z.2.1
  unfold f_X0_neighbours
  refine w_q2 (fun k u v => v = (k : Int) ∧ u = sm (fun o => ind (BS n far h c a o)) k) h 0 ⟨rfl, rfl⟩ (by omega) (by omega) (fun k hk u v hI nx hn => ?_) (fun u v hI nx => ?_)
  · obtain ⟨rfl, t1⟩ := hI
    have ss := sm_s (fun o => ind (BS n far h c a o)) k
    refine w_ltT (by omega) ?_
    refine w_b1 (beside_X0 h5 Z ha hk) (fun r hr => ?_)
    refine w_j ?_
    refine w_bI hr (fun no _ => w_lz (hn _ _ ⟨by omega, by rw [ss, ind_f no, t1]⟩)) (fun yes _ => w_lz (hn _ _ ⟨by omega, by rw [ss, ind_t yes, t1]⟩))
  · obtain ⟨rfl, t1⟩ := hI
    refine w_ltF (by omega) ?_
    exact w_s t1
/-- the first of which it is so -/
def FO (P : Nat → Prop) (n : Nat) (r : Int) : Prop := (r = -5 ∧ ∀ x, x < n → ¬ P x) ∨ ∃ x : Nat, x < n ∧ r = x ∧ P x ∧ ∀ x', x' < x → ¬ P x'
theorem FO_u {P : Nat → Prop} {n : Nat} {r s : Int} (h : FO P n r) (k : FO P n s) : r = s := by
  rcases h with ⟨h1, h2⟩ | ⟨x, h1, h2, h3, h4⟩ <;> rcases k with ⟨k1, k2⟩ | ⟨y, k1, k2, k3, k4⟩
  · omega
  · exact absurd k3 (h2 y k1)
  · exact absurd h3 (k2 x h1)
  · have a : ¬ x < y := fun l => k4 x l h3
    have b : ¬ y < x := fun l => h4 y l k3
    omega
theorem owner_X0 {n h i : Nat} {held s : Int} {far : Nat → Int} {c : Nat → Nat} {kx : Nat → Int64} {tw : Nat → Int} (h3 : 3 ≤ n) (h5 : n ≤ 5) (tf : Tb far) (T : TAB n far) (Z : HC n far h c held kx tw) (hi : i < h) (es : s = n) : wp (f_X0_ownerOf i held s kx) (fun r => FO (fun x => ∀ y, y < n → cf (c i) y = eyf far x y) n r) := by
  obtain ⟨z1, z2, z3, z4, z5, z6⟩ := Z
  have ki := z4 i hi
  unfold f_X0_ownerOf
  rw [z1, es]
  have eq : ∀ x, x < n → (dec (c i) x = 0 ↔ ∀ y, y < n → cf (c i) y = eyf far x y) := by
    intro x hx
    constructor
    · intro e
      exact zero_eye h5 tf T hx (z6 i hi) (by show (dec (c i) x : Int) = 0; rw [e]; rfl)
    · intro q
      have a : (dec (c i) x : Int) = eyf far x x := q x hx
      have b := (tf x x (by omega) (by omega)).2.2.2
      unfold eyf at a
      omega
  refine w_q1 (fun k v => v = (k : Int) ∧ ∀ x, x < k → ¬ ∀ y, y < n → cf (c i) y = eyf far x y) n 0 ⟨rfl, fa_0⟩ (by omega) (by omega) (fun k hk v hI nx hn => ?_) (fun v hI nx => ?_)
  · obtain ⟨rfl, t1⟩ := hI
    refine w_ltT (by omega) ?_
    refine w_b1s (number_X0 h5 h3 hi z2 hk ki.1 ki.2) ?_
    have l : dec (c i) k < 128 := Nat.mod_lt _ (by omega)
    refine w_eq (by omega) (fun e => w_s (Or.inr ⟨k, hk, rfl, (eq k hk).mp (by omega), t1⟩)) (fun e => hn _ ⟨by omega, fa_s t1 (fun q => e (by rw [(eq k hk).mpr q]; rfl))⟩)
  · obtain ⟨rfl, t1⟩ := hI
    refine w_ltF (by omega) ?_
    exact w_s (Or.inl ⟨rfl, t1⟩)
theorem eyeOf_X9 {n h i : Nat} {held : Int} {far cor : Nat → Int} {c : Nat → Nat} (h5 : n ≤ 5) (tf : Tb far) (h37 : h ≤ 37) (Z : HR n h c held cor) (hi : i < h) : wp (f_X9_eyeOf i n far cor) (fun r => FO (fun x => ∀ y, y < n → cf (c i) y = eyf far x y) n r) := by
  obtain ⟨z1, z2⟩ := Z
  unfold f_X9_eyeOf
  refine w_q1 (fun k v => v = (k : Int) ∧ ∀ x, x < k → ¬ ∀ y, y < n → cf (c i) y = eyf far x y) n 0 ⟨rfl, fa_0⟩ (by omega) (by omega) (fun k hk v hI nx hn => ?_) (fun v hI nx => ?_)
  · obtain ⟨rfl, t1⟩ := hI
    refine w_ltT (by omega) ?_
    refine w_q2 (fun m u v => v = (m : Int) ∧ bI u (∀ y, y < m → cf (c i) y = eyf far k y)) n 0 ⟨rfl, bI_1 fa_0⟩ (by omega) (by omega) (fun m hm u v hI ny hy => ?_) (fun u v hI ny => ?_)
    · obtain ⟨rfl, t2⟩ := hI
      refine w_ltT (by omega) ?_
      refine w_j ?_
      refine w_j ?_
      refine w_bI t2 (fun no _ => hy _ _ ⟨by omega, bI_0 (fun q => no (fun y hy' => q y (by omega)))⟩) (fun yes _ => ?_)
      rw [show (5 * (i : Int) + (m : Int)) = ((5 * i + m : Nat) : Int) by omega]
      refine w_gi (by omega) ?_
      refine w_d tf (by omega) (fun z ez l u => ?_)
      have fr := cf_r (c i) n m hm
      rw [ix_nat (show 5 * i + m < 2147483648 by omega), z2 i hi m hm]
      refine w_eq (by omega) (fun e => hy _ _ ⟨by omega, bI_1 (fa_s yes (by rw [e, ez]; rfl))⟩) (fun e => hy _ _ ⟨by omega, bI_0 (fun q => e (by rw [q m (by omega), ez]; rfl))⟩)
    · obtain ⟨rfl, t2⟩ := hI
      refine w_ltF (by omega) ?_
      exact w_bI t2 (fun no _ => hn _ ⟨by omega, fa_s t1 no⟩) (fun yes _ => w_s (Or.inr ⟨k, hk, rfl, yes, t1⟩))
  · obtain ⟨rfl, t1⟩ := hI
    refine w_ltF (by omega) ?_
    exact w_s (Or.inl ⟨rfl, t1⟩)
