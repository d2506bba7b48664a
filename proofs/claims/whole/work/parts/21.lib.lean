/-! PURE PART: the trees' words -/
theorem bd1_s {α γ : Type} (a : α) (k : α → Option γ) : bd1 (some a) k = k a := rfl
theorem bd2_s {α β γ : Type} (a : α) (b : β) (k : α → β → Option γ) : bd2 (some (a, b)) k = k a b := rfl
theorem bd3_s {α β δ γ : Type} (a : α) (b : β) (d : δ) (k : α → β → δ → Option γ) : bd3 (some (a, b, d)) k = k a b d := rfl
theorem bd4_s {α β δ ε γ : Type} (a : α) (b : β) (d : δ) (e : ε) (k : α → β → δ → ε → Option γ) : bd4 (some (a, b, d, e)) k = k a b d e := rfl
theorem bd5_s {α β δ ε ζ γ : Type} (a : α) (b : β) (d : δ) (e : ε) (f : ζ) (k : α → β → δ → ε → ζ → Option γ) : bd5 (some (a, b, d, e, f)) k = k a b d e f := rfl
theorem bd6_s {α β δ ε ζ η γ : Type} (a : α) (b : β) (d : δ) (e : ε) (f : ζ) (g : η) (k : α → β → δ → ε → ζ → η → Option γ) : bd6 (some (a, b, d, e, f, g)) k = k a b d e f g := rfl
theorem bd7_s {α β δ ε ζ η θ γ : Type} (a : α) (b : β) (d : δ) (e : ε) (f : ζ) (g : η) (h : θ) (k : α → β → δ → ε → ζ → η → θ → Option γ) : bd7 (some (a, b, d, e, f, g, h)) k = k a b d e f g h := rfl
theorem grd_s {α : Type} {b : Bool} {t : Option α} (h : b = true) : grd b t = t := by rw [h]; rfl
def b01 (p : Prop) [Decidable p] : Int := if p then 1 else 0
theorem b01_B (p : Prop) [Decidable p] : isB (b01 p) = true := by
  unfold b01
  split <;> decide
theorem b01_0 (p : Prop) [Decidable p] : eqI (b01 p) 0 = !decide p := by
  unfold b01
  by_cases h : p
  · rw [if_pos h, decide_eq_true h]; decide
  · rw [if_neg h, decide_eq_false h]; decide
theorem b01_1 (p : Prop) [Decidable p] : eqI (b01 p) 1 = decide p := by
  unfold b01
  by_cases h : p
  · rw [if_pos h, decide_eq_true h]; decide
  · rw [if_neg h, decide_eq_false h]; decide
theorem b01_t {p : Prop} [Decidable p] (h : p) : b01 p = 1 := if_pos h
theorem b01_f {p : Prop} [Decidable p] (h : ¬ p) : b01 p = 0 := if_neg h
theorem b01_c {p q : Prop} [Decidable p] [Decidable q] (h : p ↔ q) : b01 p = b01 q := by
  unfold b01
  by_cases hp : p
  · rw [if_pos hp, if_pos (h.mp hp)]
  · rw [if_neg hp, if_neg (fun z => hp (h.mpr z))]
theorem isB_0 : isB 0 = true := by decide
theorem isB_1 : isB 1 = true := by decide
/-- a loop that runs from state 0 to state b, and ends there -/
theorem lq1_run {A1 α : Type} {f : (A1 → Option α) → A1 → Option α} {R : Option α} (s1 : Nat → A1) (b : Nat) (hs : ∀ k, k < b → ∀ nx, f nx (s1 k) = nx (s1 (k + 1))) (he : ∀ nx, f nx (s1 b) = R) : ∀ (N k : Nat), k ≤ b → b - k < N → lq1 f N (s1 k) = R
  | 0, _, _, h => absurd h (Nat.not_lt_zero _)
  | N + 1, k, hk, h => by
    show f (lq1 f N) (s1 k) = R
    rcases Nat.lt_or_eq_of_le hk with q | q
    · rw [hs k q]
      exact lq1_run s1 b hs he N (k + 1) q (by omega)
    · subst q
      exact he _
theorem lq2_run {A1 A2 α : Type} {f : (A1 → A2 → Option α) → A1 → A2 → Option α} {R : Option α} (s1 : Nat → A1) (s2 : Nat → A2) (b : Nat) (hs : ∀ k, k < b → ∀ nx, f nx (s1 k) (s2 k) = nx (s1 (k + 1)) (s2 (k + 1))) (he : ∀ nx, f nx (s1 b) (s2 b) = R) : ∀ (N k : Nat), k ≤ b → b - k < N → lq2 f N (s1 k) (s2 k) = R
  | 0, _, _, h => absurd h (Nat.not_lt_zero _)
  | N + 1, k, hk, h => by
    show f (lq2 f N) (s1 k) (s2 k) = R
    rcases Nat.lt_or_eq_of_le hk with q | q
    · rw [hs k q]
      exact lq2_run s1 s2 b hs he N (k + 1) q (by omega)
    · subst q
      exact he _
theorem lq3_run {A1 A2 A3 α : Type} {f : (A1 → A2 → A3 → Option α) → A1 → A2 → A3 → Option α} {R : Option α} (s1 : Nat → A1) (s2 : Nat → A2) (s3 : Nat → A3) (b : Nat) (hs : ∀ k, k < b → ∀ nx, f nx (s1 k) (s2 k) (s3 k) = nx (s1 (k + 1)) (s2 (k + 1)) (s3 (k + 1))) (he : ∀ nx, f nx (s1 b) (s2 b) (s3 b) = R) : ∀ (N k : Nat), k ≤ b → b - k < N → lq3 f N (s1 k) (s2 k) (s3 k) = R
  | 0, _, _, h => absurd h (Nat.not_lt_zero _)
  | N + 1, k, hk, h => by
    show f (lq3 f N) (s1 k) (s2 k) (s3 k) = R
    rcases Nat.lt_or_eq_of_le hk with q | q
    · rw [hs k q]
      exact lq3_run s1 s2 s3 b hs he N (k + 1) q (by omega)
    · subst q
      exact he _
/-- the same with states that are only known by what holds of them -/
theorem lq1_inv {A1 α : Type} {f : (A1 → Option α) → A1 → Option α} {R : Option α} (I : Nat → A1 → Prop) (b : Nat) (hs : ∀ k, k < b → ∀ a1, I k a1 → ∃ c1, I (k + 1) c1 ∧ ∀ nx, f nx a1 = nx c1) (he : ∀ a1, I b a1 → ∀ nx, f nx a1 = R) : ∀ (N k : Nat) (a1 : A1), I k a1 → k ≤ b → b - k < N → lq1 f N a1 = R
  | 0, _, _, _, _, h => absurd h (Nat.not_lt_zero _)
  | N + 1, k, a1, hI, hk, h => by
    show f (lq1 f N) a1 = R
    rcases Nat.lt_or_eq_of_le hk with q | q
    · obtain ⟨c1, h1, h2⟩ := hs k q a1 hI
      rw [h2]
      exact lq1_inv I b hs he N (k + 1) c1 h1 q (by omega)
    · subst q
      exact he _ hI _
theorem lq2_inv {A1 A2 α : Type} {f : (A1 → A2 → Option α) → A1 → A2 → Option α} {R : Option α} (I : Nat → A1 → A2 → Prop) (b : Nat) (hs : ∀ k, k < b → ∀ a1 a2, I k a1 a2 → ∃ c1 c2, I (k + 1) c1 c2 ∧ ∀ nx, f nx a1 a2 = nx c1 c2) (he : ∀ a1 a2, I b a1 a2 → ∀ nx, f nx a1 a2 = R) : ∀ (N k : Nat) (a1 : A1) (a2 : A2), I k a1 a2 → k ≤ b → b - k < N → lq2 f N a1 a2 = R
  | 0, _, _, _, _, _, h => absurd h (Nat.not_lt_zero _)
  | N + 1, k, a1, a2, hI, hk, h => by
    show f (lq2 f N) a1 a2 = R
    rcases Nat.lt_or_eq_of_le hk with q | q
    · obtain ⟨c1, c2, h1, h2⟩ := hs k q a1 a2 hI
      rw [h2]
      exact lq2_inv I b hs he N (k + 1) c1 c2 h1 q (by omega)
    · subst q
      exact he _ _ hI _
theorem jn_ite {α : Type} {A : Type} (K : A → Option α) (c : Bool) (a b : A) : jn K (fun k => if c = true then k a else k b) = K (if c = true then a else b) := by
  unfold jn
  split <;> rfl
/-! points, distances -/
def rg (p : Int) : Prop := -2147483648 ≤ p ∧ p < 2147483648
theorem has_X4 {p n : Int} (hp : rg p) (h3 : 3 ≤ n) (h5 : n ≤ 5) : f_X4_has p n = some (b01 (0 ≤ p ∧ p < n)) := by
  obtain ⟨g1, g2⟩ := hp
  simp (disch := omega) only [f_X4_has, jn, ltI_eq, decide_eq_true_eq, grd_s isB_0, grd_s isB_1]
  unfold b01
  repeat' split
  all_goals first | rfl | omega
theorem areTwo_X4 {p q n : Int} (hp : rg p) (hq : rg q) (h3 : 3 ≤ n) (h5 : n ≤ 5) : f_X4_areTwo p q n = some (b01 (0 ≤ p ∧ p < n ∧ 0 ≤ q ∧ q < n ∧ p ≠ q)) := by
  obtain ⟨g1, g2⟩ := hp
  obtain ⟨g3, g4⟩ := hq
  simp (disch := omega) only [f_X4_areTwo, jn, ltI_eq, eqI_eq, decide_eq_true_eq, grd_s isB_0, grd_s isB_1]
  unfold b01
  repeat' split
  all_goals first | rfl | omega
theorem in_X9 {p a b : Int} (hp : rg p) (ha : rg a) (hb : rg b) : f_X9_in p a b = some (b01 (a ≤ p ∧ p ≤ b)) := by
  obtain ⟨g1, g2⟩ := hp
  obtain ⟨g3, g4⟩ := ha
  obtain ⟨g5, g6⟩ := hb
  simp (disch := omega) only [f_X9_in, jn, ltI_eq, decide_eq_true_eq, grd_s isB_0, grd_s isB_1]
  unfold b01
  repeat' split
  all_goals first | rfl | omega
theorem isPoint_X9 {p n : Int} (hp : rg p) (h3 : 3 ≤ n) (h5 : n ≤ 5) : f_X9_isPoint p n = some (b01 (0 ≤ p ∧ p < n)) := by
  unfold f_X9_isPoint
  rw [in_X9 hp ⟨by omega, by omega⟩ ⟨by omega, by omega⟩, bd1_s, grd_s (b01_B _)]
  exact congrArg some (b01_c (by omega))
theorem areTwo_X9 {p q n : Int} (hp : rg p) (hq : rg q) (h3 : 3 ≤ n) (h5 : n ≤ 5) : f_X9_areTwo p q n = some (b01 (0 ≤ p ∧ p < n ∧ 0 ≤ q ∧ q < n ∧ p ≠ q)) := by
  unfold f_X9_areTwo
  rw [isPoint_X9 hp h3 h5, isPoint_X9 hq h3 h5]
  obtain ⟨g1, g2⟩ := hp
  obtain ⟨g3, g4⟩ := hq
  simp (disch := omega) only [jn, bd1_s, b01_0, eqI_eq, decide_eq_true_eq, grd_s isB_0, grd_s isB_1, Bool.not_eq_true', decide_eq_false_iff_not]
  unfold b01
  repeat' split
  all_goals first | rfl | omega
theorem gap_X4 {p q n : Int} {g : Nat → Int} (h1 : 0 ≤ p) (h2 : p < n) (h3 : 0 ≤ q) (h4 : q < n) (h5 : n ≤ 5) : f_X4_gap p q n g = some (g (5 * p + q).toNat) := by
  have e : iin (5 * p + q) 25 = true := iin_t (by omega) (by omega) (by omega)
  simp (disch := omega) only [f_X4_gap, jn, ltI_eq, decide_eq_true_eq, grd_s e, ix_eq]
  rw [if_neg (by omega), if_pos h2, if_neg (by omega), if_pos h4]
  rfl
theorem gap_N {i j : Nat} {n : Int} {g : Nat → Int} (h2 : (i : Int) < n) (h4 : (j : Int) < n) (h5 : n ≤ 5) : f_X4_gap i j n g = some (g (5 * i + j)) := by
  rw [gap_X4 (by omega) h2 (by omega) h4 h5]
  exact congrArg (fun k => some (g k)) (by omega)
theorem d_X9 {p q : Int} {g : Nat → Int} (h1 : 0 ≤ p) (h2 : p < 5) (h3 : 0 ≤ q) (h4 : q < 5) : f_X9_d p q g = some (g (5 * p + q).toNat) := by
  have e : iin (5 * p + q) 25 = true := iin_t (by omega) (by omega) (by omega)
  simp (disch := omega) only [f_X9_d, grd_s e, ix_eq]
theorem d_N {i j : Nat} {g : Nat → Int} (h2 : i < 5) (h4 : j < 5) : f_X9_d i j g = some (g (5 * i + j)) := by
  rw [d_X9 (by omega) (by omega) (by omega) (by omega)]
  exact congrArg (fun k => some (g k)) (by omega)
/-- the distance of two points becomes v, both ways -/
def put2 (g : Nat → Int) (p q v : Int) : Nat → Int := up (up g (5 * p + q).toNat v) (5 * q + p).toNat v
theorem put_X4 {p q v n : Int} {g : Nat → Int} (h1 : 0 ≤ p) (h2 : p < n) (h3 : 0 ≤ q) (h4 : q < n) (hne : p ≠ q) (h5 : n ≤ 5) (h6 : 3 ≤ n) : f_X4_put p q v n g = some (put2 g p q v) := by
  unfold f_X4_put
  rw [areTwo_X4 ⟨by omega, by omega⟩ ⟨by omega, by omega⟩ h6 h5, b01_t ⟨h1, h2, h3, h4, hne⟩]
  have e1 : iin (5 * p + q) 25 = true := iin_t (by omega) (by omega) (by omega)
  have e2 : iin (5 * q + p) 25 = true := iin_t (by omega) (by omega) (by omega)
  simp (disch := omega) only [bd1_s, jn, grd_s e1, grd_s e2, ix_eq]
  rfl
theorem put_X4_n {p q v n : Int} {g : Nat → Int} (hp : rg p) (hq : rg q) (hne : ¬ (0 ≤ p ∧ p < n ∧ 0 ≤ q ∧ q < n ∧ p ≠ q)) (h5 : n ≤ 5) (h6 : 3 ≤ n) : f_X4_put p q v n g = some g := by
  unfold f_X4_put
  rw [areTwo_X4 hp hq h6 h5, b01_f hne]
  rfl
theorem lays_X9 {p q v : Int} {g : Nat → Int} (h1 : 0 ≤ p) (h2 : p < 5) (h3 : 0 ≤ q) (h4 : q < 5) : f_X9_lays p q v g = some (put2 g p q v) := by
  have e1 : iin (5 * p + q) 25 = true := iin_t (by omega) (by omega) (by omega)
  have e2 : iin (5 * q + p) 25 = true := iin_t (by omega) (by omega) (by omega)
  simp (disch := omega) only [f_X9_lays, grd_s e1, grd_s e2, ix_eq]
  rfl
