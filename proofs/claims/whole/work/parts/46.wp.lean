/-! PURE PART: rules for trees, read forwards -/
theorem w_s {α : Type} {K : α → Prop} {a : α} (h : K a) : wp (some a) K := ⟨a, rfl, h⟩
theorem w_m {α : Type} {K Q : α → Prop} {t : Option α} (h : wp t Q) (m : ∀ a, Q a → K a) : wp t K := by
  obtain ⟨a, h1, h2⟩ := h
  exact ⟨a, h1, m a h2⟩
theorem w_b1 {α γ : Type} {Q : α → Prop} {t : Option α} {k : α → Option γ} {K : γ → Prop} (h : wp t Q) (m : ∀ a, Q a → wp (k a) K) : wp (bd1 t k) K := by
  obtain ⟨a, h1, h2⟩ := h
  rw [h1]
  exact m a h2
theorem w_b2 {α β γ : Type} {Q : α × β → Prop} {t : Option (α × β)} {k : α → β → Option γ} {K : γ → Prop} (h : wp t Q) (m : ∀ a b, Q (a, b) → wp (k a b) K) : wp (bd2 t k) K := by
  obtain ⟨⟨a, b⟩, h1, h2⟩ := h
  rw [h1]
  exact m a b h2
theorem w_b3 {α β δ γ : Type} {Q : α × β × δ → Prop} {t : Option (α × β × δ)} {k : α → β → δ → Option γ} {K : γ → Prop} (h : wp t Q) (m : ∀ a b d, Q (a, b, d) → wp (k a b d) K) : wp (bd3 t k) K := by
  obtain ⟨⟨a, b, d⟩, h1, h2⟩ := h
  rw [h1]
  exact m a b d h2
theorem w_b4 {α β δ ε γ : Type} {Q : α × β × δ × ε → Prop} {t : Option (α × β × δ × ε)} {k : α → β → δ → ε → Option γ} {K : γ → Prop} (h : wp t Q) (m : ∀ a b d e, Q (a, b, d, e) → wp (k a b d e) K) : wp (bd4 t k) K := by
  obtain ⟨⟨a, b, d, e⟩, h1, h2⟩ := h
  rw [h1]
  exact m a b d e h2
theorem w_b5 {α β δ ε ζ γ : Type} {Q : α × β × δ × ε × ζ → Prop} {t : Option (α × β × δ × ε × ζ)} {k : α → β → δ → ε → ζ → Option γ} {K : γ → Prop} (h : wp t Q) (m : ∀ a b d e f, Q (a, b, d, e, f) → wp (k a b d e f) K) : wp (bd5 t k) K := by
  obtain ⟨⟨a, b, d, e, f⟩, h1, h2⟩ := h
  rw [h1]
  exact m a b d e f h2
theorem w_b6 {α β δ ε ζ η γ : Type} {Q : α × β × δ × ε × ζ × η → Prop} {t : Option (α × β × δ × ε × ζ × η)} {k : α → β → δ → ε → ζ → η → Option γ} {K : γ → Prop} (h : wp t Q) (m : ∀ a b d e f g, Q (a, b, d, e, f, g) → wp (k a b d e f g) K) : wp (bd6 t k) K := by
  obtain ⟨⟨a, b, d, e, f, g⟩, h1, h2⟩ := h
  rw [h1]
  exact m a b d e f g h2
theorem w_b7 {α β δ ε ζ η θ γ : Type} {Q : α × β × δ × ε × ζ × η × θ → Prop} {t : Option (α × β × δ × ε × ζ × η × θ)} {k : α → β → δ → ε → ζ → η → θ → Option γ} {K : γ → Prop} (h : wp t Q) (m : ∀ a b d e f g i, Q (a, b, d, e, f, g, i) → wp (k a b d e f g i) K) : wp (bd7 t k) K := by
  obtain ⟨⟨a, b, d, e, f, g, i⟩, h1, h2⟩ := h
  rw [h1]
  exact m a b d e f g i h2
theorem w_b8 {α β δ ε ζ η θ ι γ : Type} {Q : α × β × δ × ε × ζ × η × θ × ι → Prop} {t : Option (α × β × δ × ε × ζ × η × θ × ι)} {k : α → β → δ → ε → ζ → η → θ → ι → Option γ} {K : γ → Prop} (h : wp t Q) (m : ∀ a b d e f g i j, Q (a, b, d, e, f, g, i, j) → wp (k a b d e f g i j) K) : wp (bd8 t k) K := by
  obtain ⟨⟨a, b, d, e, f, g, i, j⟩, h1, h2⟩ := h
  rw [h1]
  exact m a b d e f g i j h2
theorem w_g {α : Type} {K : α → Prop} {b : Bool} {t : Option α} (hb : b = true) (h : wp t K) : wp (grd b t) K := by
  rw [hb]
  exact h
theorem w_gi {α : Type} {K : α → Prop} {z : Int} {n : Nat} {t : Option α} (hb : 0 ≤ z ∧ z < n ∧ n < 2147483648) (h : wp t K) : wp (grd (iin z n) t) K := w_g (iin_t hb.1 hb.2.1 hb.2.2) h
theorem w_gB {α : Type} {K : α → Prop} {p : Prop} [Decidable p] {t : Option α} (h : wp t K) : wp (grd (isB (b01 p)) t) K := w_g (b01_B p) h
theorem w_gn {α : Type} {K : α → Prop} {x y : Int} {t : Option α} (r : -2147483648 ≤ x ∧ x < 2147483648 ∧ -2147483648 ≤ y ∧ y < 2147483648 ∧ x ≠ y) (h : wp t K) : wp (grd (!(eqI x y)) t) K := w_g (by
  rw [eqI_eq r.1 r.2.1 r.2.2.1 r.2.2.2.1, decide_eq_false r.2.2.2.2]
  rfl) h
theorem w_l {α β : Type} {K : β → Prop} {v : α} {k : α → Option β} (h : ∀ x, x = v → wp (k x) K) : wp (lv v k) K := h v rfl
theorem w_lz {α β : Type} {K : β → Prop} {v : α} {k : α → Option β} (h : wp (k v) K) : wp (lv v k) K := h
theorem w_j {κ α : Type} {K : α → Prop} {k : κ} {t : κ → Option α} (h : wp (t k) K) : wp (jn k t) K := h
theorem w_i {α : Type} {K : α → Prop} {c : Bool} {a b : Option α} (h1 : c = true → wp a K) (h2 : c = false → wp b K) : wp (if c = true then a else b) K := by
  cases c
  · exact h2 rfl
  · exact h1 rfl
theorem w_ltT {α : Type} {K : α → Prop} {x y : Int} {a b : Option α} (r : -2147483648 ≤ x ∧ x < y ∧ y < 2147483648) (h : wp a K) : wp (if ltI x y = true then a else b) K := by
  rw [ltI_eq r.1 (by omega) (by omega) r.2.2, decide_eq_true r.2.1]
  exact h
theorem w_ltF {α : Type} {K : α → Prop} {x y : Int} {a b : Option α} (r : -2147483648 ≤ y ∧ y ≤ x ∧ x < 2147483648) (h : wp b K) : wp (if ltI x y = true then a else b) K := by
  rw [ltI_eq (by omega) r.2.2 r.1 (by omega), decide_eq_false (Int.not_lt.mpr r.2.1)]
  exact h
theorem w_lt {α : Type} {K : α → Prop} {x y : Int} {a b : Option α} (r : -2147483648 ≤ x ∧ x < 2147483648 ∧ -2147483648 ≤ y ∧ y < 2147483648) (h1 : x < y → wp a K) (h2 : y ≤ x → wp b K) : wp (if ltI x y = true then a else b) K := by
  rw [ltI_eq r.1 r.2.1 r.2.2.1 r.2.2.2]
  exact w_i (fun c => h1 (of_decide_eq_true c)) (fun c => h2 (Int.not_lt.mp (of_decide_eq_false c)))
theorem w_eqT {α : Type} {K : α → Prop} {x y : Int} {a b : Option α} (r : x = y) (h : wp a K) : wp (if eqI x y = true then a else b) K := by
  have e : eqI x y = true := by
    unfold eqI
    rw [r]
    exact decide_eq_true rfl
  rw [e]
  exact h
theorem w_eqF {α : Type} {K : α → Prop} {x y : Int} {a b : Option α} (r : -2147483648 ≤ x ∧ x < 2147483648 ∧ -2147483648 ≤ y ∧ y < 2147483648 ∧ x ≠ y) (h : wp b K) : wp (if eqI x y = true then a else b) K := by
  rw [eqI_eq r.1 r.2.1 r.2.2.1 r.2.2.2.1, decide_eq_false r.2.2.2.2]
  exact h
theorem w_eq {α : Type} {K : α → Prop} {x y : Int} {a b : Option α} (r : -2147483648 ≤ x ∧ x < 2147483648 ∧ -2147483648 ≤ y ∧ y < 2147483648) (h1 : x = y → wp a K) (h2 : x ≠ y → wp b K) : wp (if eqI x y = true then a else b) K := by
  rw [eqI_eq r.1 r.2.1 r.2.2.1 r.2.2.2]
  exact w_i (fun c => h1 (of_decide_eq_true c)) (fun c => h2 (of_decide_eq_false c))
theorem w_B {α : Type} {K : α → Prop} {p : Prop} [Decidable p] {a b : Option α} (h1 : ¬ p → wp a K) (h2 : p → wp b K) : wp (if eqI (b01 p) 0 = true then a else b) K := by
  rw [b01_0]
  by_cases c : p
  · rw [decide_eq_true c]
    exact h2 c
  · rw [decide_eq_false c]
    exact h1 c
theorem w_B1 {α : Type} {K : α → Prop} {p : Prop} [Decidable p] {a b : Option α} (h1 : p → wp a K) (h2 : ¬ p → wp b K) : wp (if eqI (b01 p) 1 = true then a else b) K := by
  rw [b01_1]
  by_cases c : p
  · rw [decide_eq_true c]
    exact h1 c
  · rw [decide_eq_false c]
    exact h2 c
theorem w_q1 {A1 α : Type} {K : α → Prop} {f : (A1 → Option α) → A1 → Option α} {N : Nat} {a1 : A1} (I : Nat → A1 → Prop) (b k : Nat) (hI : I k a1) (hk : k ≤ b) (hN : b - k < N) (hs : ∀ k, k < b → ∀ a1, I k a1 → ∀ nx, (∀ c1, I (k + 1) c1 → wp (nx c1) K) → wp (f nx a1) K) (he : ∀ a1, I b a1 → ∀ nx, wp (f nx a1) K) : wp (lq1 f N a1) K := lq1_P I (fun u => wp u K) b hs he N k a1 hI hk hN
theorem w_q2 {A1 A2 α : Type} {K : α → Prop} {f : (A1 → A2 → Option α) → A1 → A2 → Option α} {N : Nat} {a1 : A1} {a2 : A2} (I : Nat → A1 → A2 → Prop) (b k : Nat) (hI : I k a1 a2) (hk : k ≤ b) (hN : b - k < N) (hs : ∀ k, k < b → ∀ a1 a2, I k a1 a2 → ∀ nx, (∀ c1 c2, I (k + 1) c1 c2 → wp (nx c1 c2) K) → wp (f nx a1 a2) K) (he : ∀ a1 a2, I b a1 a2 → ∀ nx, wp (f nx a1 a2) K) : wp (lq2 f N a1 a2) K := lq2_P I (fun u => wp u K) b hs he N k a1 a2 hI hk hN
theorem w_q3 {A1 A2 A3 α : Type} {K : α → Prop} {f : (A1 → A2 → A3 → Option α) → A1 → A2 → A3 → Option α} {N : Nat} {a1 : A1} {a2 : A2} {a3 : A3} (I : Nat → A1 → A2 → A3 → Prop) (b k : Nat) (hI : I k a1 a2 a3) (hk : k ≤ b) (hN : b - k < N) (hs : ∀ k, k < b → ∀ a1 a2 a3, I k a1 a2 a3 → ∀ nx, (∀ c1 c2 c3, I (k + 1) c1 c2 c3 → wp (nx c1 c2 c3) K) → wp (f nx a1 a2 a3) K) (he : ∀ a1 a2 a3, I b a1 a2 a3 → ∀ nx, wp (f nx a1 a2 a3) K) : wp (lq3 f N a1 a2 a3) K := lq3_P I (fun u => wp u K) b hs he N k a1 a2 a3 hI hk hN
theorem w_q4 {A1 A2 A3 A4 α : Type} {K : α → Prop} {f : (A1 → A2 → A3 → A4 → Option α) → A1 → A2 → A3 → A4 → Option α} {N : Nat} {a1 : A1} {a2 : A2} {a3 : A3} {a4 : A4} (I : Nat → A1 → A2 → A3 → A4 → Prop) (b k : Nat) (hI : I k a1 a2 a3 a4) (hk : k ≤ b) (hN : b - k < N) (hs : ∀ k, k < b → ∀ a1 a2 a3 a4, I k a1 a2 a3 a4 → ∀ nx, (∀ c1 c2 c3 c4, I (k + 1) c1 c2 c3 c4 → wp (nx c1 c2 c3 c4) K) → wp (f nx a1 a2 a3 a4) K) (he : ∀ a1 a2 a3 a4, I b a1 a2 a3 a4 → ∀ nx, wp (f nx a1 a2 a3 a4) K) : wp (lq4 f N a1 a2 a3 a4) K := lq4_P I (fun u => wp u K) b hs he N k a1 a2 a3 a4 hI hk hN
theorem w_q5 {A1 A2 A3 A4 A5 α : Type} {K : α → Prop} {f : (A1 → A2 → A3 → A4 → A5 → Option α) → A1 → A2 → A3 → A4 → A5 → Option α} {N : Nat} {a1 : A1} {a2 : A2} {a3 : A3} {a4 : A4} {a5 : A5} (I : Nat → A1 → A2 → A3 → A4 → A5 → Prop) (b k : Nat) (hI : I k a1 a2 a3 a4 a5) (hk : k ≤ b) (hN : b - k < N) (hs : ∀ k, k < b → ∀ a1 a2 a3 a4 a5, I k a1 a2 a3 a4 a5 → ∀ nx, (∀ c1 c2 c3 c4 c5, I (k + 1) c1 c2 c3 c4 c5 → wp (nx c1 c2 c3 c4 c5) K) → wp (f nx a1 a2 a3 a4 a5) K) (he : ∀ a1 a2 a3 a4 a5, I b a1 a2 a3 a4 a5 → ∀ nx, wp (f nx a1 a2 a3 a4 a5) K) : wp (lq5 f N a1 a2 a3 a4 a5) K := lq5_P I (fun u => wp u K) b hs he N k a1 a2 a3 a4 a5 hI hk hN
theorem fa_s {p : Nat → Prop} {k : Nat} (h : ∀ i, i < k → p i) (e : p k) : ∀ i, i < k + 1 → p i := fun i hi => by
  by_cases c : i = k
  · rw [c]
    exact e
  · exact h i (by omega)
theorem fa_0 {p : Nat → Prop} : ∀ i, i < 0 → p i := fun i hi => absurd hi (Nat.not_lt_zero _)
theorem w_ix {α : Type} {K : α → Prop} {i : Nat} {f : Nat → Option α} (hi : i < 2147483648) (h : wp (f i) K) : wp (f (ix (i : Int))) K := by
  rw [ix_nat hi]
  exact h
/-- both distances -/
theorem w_gap {α : Type} {K : α → Prop} {i j : Nat} {n : Int} {g : Nat → Int} {k : Int → Option α} (tg : Tb g) (h : (i : Int) < n ∧ (j : Int) < n ∧ n ≤ 5) (hk : ∀ r, r = g (5 * i + j) → 0 ≤ r → r ≤ 40 → wp (k r) K) : wp (bd1 (f_X4_gap i j n g) k) K := by
  rw [gap_N h.1 h.2.1 h.2.2, bd1_s]
  have t := tg i j (by omega) (by omega)
  exact hk _ rfl t.1 t.2.1
theorem w_d {α : Type} {K : α → Prop} {i j : Nat} {g : Nat → Int} {k : Int → Option α} (tg : Tb g) (h : i < 5 ∧ j < 5) (hk : ∀ r, r = g (5 * i + j) → 0 ≤ r → r ≤ 40 → wp (k r) K) : wp (bd1 (f_X9_d i j g) k) K := by
  rw [d_N h.1 h.2, bd1_s]
  have t := tg i j h.1 h.2
  exact hk _ rfl t.1 t.2.1
theorem minI_w {a b : Int} (r : -2147483648 ≤ a ∧ a < 2147483648 ∧ -2147483648 ≤ b ∧ b < 2147483648) : minI a b ≤ a ∧ minI a b ≤ b ∧ (minI a b = a ∨ minI a b = b) := by
  unfold minI
  rw [ltI_eq r.2.2.1 r.2.2.2 r.1 r.2.1]
  by_cases c : b < a
  · rw [decide_eq_true c, if_pos rfl]
    omega
  · rw [decide_eq_false c, if_neg (by decide)]
    omega
theorem maxI_w {a b : Int} (r : -2147483648 ≤ a ∧ a < 2147483648 ∧ -2147483648 ≤ b ∧ b < 2147483648) : a ≤ maxI a b ∧ b ≤ maxI a b ∧ (maxI a b = a ∨ maxI a b = b) := by
  unfold maxI
  rw [ltI_eq r.1 r.2.1 r.2.2.1 r.2.2.2]
  by_cases c : a < b
  · rw [decide_eq_true c, if_pos rfl]
    omega
  · rw [decide_eq_false c, if_neg (by decide)]
    omega
/-- a truth told as 1 or 0 -/
def bI (r : Int) (p : Prop) : Prop := (r = 1 ∧ p) ∨ (r = 0 ∧ ¬ p)
theorem bI_1 {p : Prop} (h : p) : bI 1 p := Or.inl ⟨rfl, h⟩
theorem bI_0 {p : Prop} (h : ¬ p) : bI 0 p := Or.inr ⟨rfl, h⟩
theorem bI_c {r : Int} {p q : Prop} (h : bI r p) (e : p ↔ q) : bI r q := by
  rcases h with ⟨h1, h2⟩ | ⟨h1, h2⟩
  · exact Or.inl ⟨h1, e.mp h2⟩
  · exact Or.inr ⟨h1, fun z => h2 (e.mpr z)⟩
theorem bI_u {r s : Int} {p : Prop} (h : bI r p) (k : bI s p) : r = s := by
  rcases h with ⟨h1, h2⟩ | ⟨h1, h2⟩ <;> rcases k with ⟨k1, k2⟩ | ⟨k1, k2⟩
  · rw [h1, k1]
  · exact absurd h2 k2
  · exact absurd k2 h2
  · rw [h1, k1]
theorem bI_b {p : Prop} [Decidable p] : bI (b01 p) p := by
  by_cases c : p
  · rw [b01_t c]
    exact bI_1 c
  · rw [b01_f c]
    exact bI_0 c
theorem bI_B {r : Int} {p : Prop} (h : bI r p) : isB r = true := by
  rcases h with ⟨h1, h2⟩ | ⟨h1, h2⟩ <;> rw [h1] <;> decide
theorem w_bI {α : Type} {K : α → Prop} {r : Int} {p : Prop} {a b : Option α} (h : bI r p) (h1 : ¬ p → r = 0 → wp a K) (h2 : p → r = 1 → wp b K) : wp (if eqI r 0 = true then a else b) K := by
  rcases h with ⟨k1, k2⟩ | ⟨k1, k2⟩
  · exact w_eqF (by omega) (h2 k2 k1)
  · exact w_eqT k1 (h1 k2 k1)
theorem w_gI {α : Type} {K : α → Prop} {r : Int} {p : Prop} {t : Option α} (h : bI r p) (k : wp t K) : wp (grd (isB r) t) K := w_g (bI_B h) k
theorem w_g0 {α : Type} {K : α → Prop} {t : Option α} (k : wp t K) : wp (grd (isB 0) t) K := w_g isB_0 k
theorem w_g1 {α : Type} {K : α → Prop} {t : Option α} (k : wp t K) : wp (grd (isB 1) t) K := w_g isB_1 k
/-- both trees answer, alike -/
theorem wp_two {α β : Type} {t : Option α} {u : Option β} {P : α → Prop} {Q : β → Prop} {R : Prop} (h1 : wp t P) (h2 : wp u Q) (m : ∀ a b, t = some a → u = some b → P a → Q b → R) : R := by
  obtain ⟨a, a1, a2⟩ := h1
  obtain ⟨b, b1, b2⟩ := h2
  exact m a b a1 b1 a2 b2
