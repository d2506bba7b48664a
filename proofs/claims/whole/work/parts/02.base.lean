/-! THE WALK'S CALCULUS: ints of the machine as whole numbers, trees of a method's answers (wp), one judgement (WW) with world, locals and stack in its own words -/
def jz (z : Int) : Int32 := Int32.ofInt z
def ix (z : Int) : Nat := (jz z).toNatClampNeg
def iin (z : Int) (n : Nat) : Bool := !(decide (jz z < 0) || decide (n ≤ ix z))
def ltI (a b : Int) : Bool := decide (jz a < jz b)
def eqI (a b : Int) : Bool := decide (jz a = jz b)
def isB (a : Int) : Bool := decide (jz a = 0) || decide (jz a = 1)
def andI (a b : Int) : Int := (jz a &&& jz b).toInt
def orI (a b : Int) : Int := (jz a ||| jz b).toInt
def shlI (a b : Int) : Int := (jz a <<< (jz b &&& 31)).toInt
def shrI (a b : Int) : Int := (jz a >>> (jz b &&& 31)).toInt
def ushI (a b : Int) : Int := (((jz a).toUInt32 >>> ((jz b).toUInt32 &&& Int32.toUInt32 31)).toInt32).toInt
def divI (a b : Int) : Int := (jz a / jz b).toInt
def remI (a b : Int) : Int := (jz a - jz a / jz b * jz b).toInt
def byI (a : Int) : Int := ((jz a).toInt8.toInt32).toInt
def shI (a : Int) : Int := ((jz a).toInt16.toInt32).toInt
def maxI (a b : Int) : Int := if ltI a b = true then b else a
def minI (a b : Int) : Int := if ltI b a = true then b else a
def absI (a : Int) : Int := if ltI a 0 = true then 0 - a else a
def i2lI (a : Int) : Int64 := (jz a).toInt64
def l2iI (v : Int64) : Int := v.toInt32.toInt
def lcmI (x y : Int64) : Int := (lg_cmp x y).toInt
def lshlI (x : Int64) (b : Int) : Int64 := x <<< ((jz b).toInt64 &&& 63)
def lshrI (x : Int64) (b : Int) : Int64 := x >>> ((jz b).toInt64 &&& 63)
def jA (a : Nat → Int) : Nat → Int32 := fun k => jz (a k)
def up {α : Type} (a : Nat → α) (k : Nat) (v : α) : Nat → α := fun j => if j = k then v else a j
theorem jz_add (a b : Int) : jz (a + b) = jz a + jz b := Int32.ofInt_add a b
theorem jz_sub (a b : Int) : jz (a - b) = jz a - jz b := Int32.ofInt_sub a b
theorem jz_mul (a b : Int) : jz (a * b) = jz a * jz b := Int32.ofInt_mul a b
theorem jz_neg (a : Int) : jz (-a) = -jz a := Int32.ofInt_neg a
theorem jz_to (v : Int32) : jz v.toInt = v := Int32.ofInt_toInt v
theorem jA_up (f : Nat → Int) (k : Nat) (z : Int) : upd (jA f) k (jz z) = jA (up f k z) := by
  funext j
  by_cases h : j = k
  · simp [upd, jA, up, h]
  · simp [upd, jA, up, h]
theorem iin_in {z : Int} {n : Nat} (h : iin z n = true) : vp_in (jz z) n := by
  intro q
  unfold iin ix at h
  rcases q with q | q <;> simp [q] at h
theorem tp_lt {z : Int} {n : Nat} (h : iin z n = true) : ix z < n := Nat.not_le.mp fun q => iin_in h (Or.inr q)
theorem isB_or {z : Int} (h : isB z = true) : jz z = 0 ∨ jz z = 1 := by
  unfold isB at h
  simpa using h
/-! trees -/
def wp {α : Type} (t : Option α) (K : α → Prop) : Prop := ∃ x, t = some x ∧ K x
def grd {α : Type} (b : Bool) (t : Option α) : Option α := if b = true then t else none
def jn {κ α : Type} (k : κ) (t : κ → Option α) : Option α := t k
def lv {α β : Type} (v : α) (k : α → Option β) : Option β := k v
def bd1 {α γ : Type} (t : Option α) (k : α → Option γ) : Option γ := match t with | none => none | some a => k a
def bd2 {α β γ : Type} (t : Option (α × β)) (k : α → β → Option γ) : Option γ := match t with | none => none | some (a, b) => k a b
def bd3 {α β δ γ : Type} (t : Option (α × β × δ)) (k : α → β → δ → Option γ) : Option γ := match t with | none => none | some (a, b, d) => k a b d
def bd4 {α β δ ε γ : Type} (t : Option (α × β × δ × ε)) (k : α → β → δ → ε → Option γ) : Option γ := match t with | none => none | some (a, b, d, e) => k a b d e
def bd5 {α β δ ε ζ γ : Type} (t : Option (α × β × δ × ε × ζ)) (k : α → β → δ → ε → ζ → Option γ) : Option γ := match t with | none => none | some (a, b, d, e, f) => k a b d e f
def bd6 {α β δ ε ζ η γ : Type} (t : Option (α × β × δ × ε × ζ × η)) (k : α → β → δ → ε → ζ → η → Option γ) : Option γ := match t with | none => none | some (a, b, d, e, f, g) => k a b d e f g
def bd7 {α β δ ε ζ η θ γ : Type} (t : Option (α × β × δ × ε × ζ × η × θ)) (k : α → β → δ → ε → ζ → η → θ → Option γ) : Option γ := match t with | none => none | some (a, b, d, e, f, g, h) => k a b d e f g h
def bd8 {α β δ ε ζ η θ ι γ : Type} (t : Option (α × β × δ × ε × ζ × η × θ × ι)) (k : α → β → δ → ε → ζ → η → θ → ι → Option γ) : Option γ := match t with | none => none | some (a, b, d, e, f, g, h, i) => k a b d e f g h i
def bd9 {A1 A2 A3 A4 A5 A6 A7 A8 A9 γ : Type} (t : Option (A1 × A2 × A3 × A4 × A5 × A6 × A7 × A8 × A9)) (k : A1 → A2 → A3 → A4 → A5 → A6 → A7 → A8 → A9 → Option γ) : Option γ := match t with | none => none | some (a1, a2, a3, a4, a5, a6, a7, a8, a9) => k a1 a2 a3 a4 a5 a6 a7 a8 a9
def bd10 {A1 A2 A3 A4 A5 A6 A7 A8 A9 A10 γ : Type} (t : Option (A1 × A2 × A3 × A4 × A5 × A6 × A7 × A8 × A9 × A10)) (k : A1 → A2 → A3 → A4 → A5 → A6 → A7 → A8 → A9 → A10 → Option γ) : Option γ := match t with | none => none | some (a1, a2, a3, a4, a5, a6, a7, a8, a9, a10) => k a1 a2 a3 a4 a5 a6 a7 a8 a9 a10
def bd11 {A1 A2 A3 A4 A5 A6 A7 A8 A9 A10 A11 γ : Type} (t : Option (A1 × A2 × A3 × A4 × A5 × A6 × A7 × A8 × A9 × A10 × A11)) (k : A1 → A2 → A3 → A4 → A5 → A6 → A7 → A8 → A9 → A10 → A11 → Option γ) : Option γ := match t with | none => none | some (a1, a2, a3, a4, a5, a6, a7, a8, a9, a10, a11) => k a1 a2 a3 a4 a5 a6 a7 a8 a9 a10 a11
def bd12 {A1 A2 A3 A4 A5 A6 A7 A8 A9 A10 A11 A12 γ : Type} (t : Option (A1 × A2 × A3 × A4 × A5 × A6 × A7 × A8 × A9 × A10 × A11 × A12)) (k : A1 → A2 → A3 → A4 → A5 → A6 → A7 → A8 → A9 → A10 → A11 → A12 → Option γ) : Option γ := match t with | none => none | some (a1, a2, a3, a4, a5, a6, a7, a8, a9, a10, a11, a12) => k a1 a2 a3 a4 a5 a6 a7 a8 a9 a10 a11 a12
def bd13 {A1 A2 A3 A4 A5 A6 A7 A8 A9 A10 A11 A12 A13 γ : Type} (t : Option (A1 × A2 × A3 × A4 × A5 × A6 × A7 × A8 × A9 × A10 × A11 × A12 × A13)) (k : A1 → A2 → A3 → A4 → A5 → A6 → A7 → A8 → A9 → A10 → A11 → A12 → A13 → Option γ) : Option γ := match t with | none => none | some (a1, a2, a3, a4, a5, a6, a7, a8, a9, a10, a11, a12, a13) => k a1 a2 a3 a4 a5 a6 a7 a8 a9 a10 a11 a12 a13
def bd14 {A1 A2 A3 A4 A5 A6 A7 A8 A9 A10 A11 A12 A13 A14 γ : Type} (t : Option (A1 × A2 × A3 × A4 × A5 × A6 × A7 × A8 × A9 × A10 × A11 × A12 × A13 × A14)) (k : A1 → A2 → A3 → A4 → A5 → A6 → A7 → A8 → A9 → A10 → A11 → A12 → A13 → A14 → Option γ) : Option γ := match t with | none => none | some (a1, a2, a3, a4, a5, a6, a7, a8, a9, a10, a11, a12, a13, a14) => k a1 a2 a3 a4 a5 a6 a7 a8 a9 a10 a11 a12 a13 a14
theorem wp_t {α : Type} {c : Bool} {a b : Option α} {K : α → Prop} (h : wp (if c = true then a else b) K) (hc : c = true) : wp a K := by rwa [if_pos hc] at h
theorem wp_f {α : Type} {c : Bool} {a b : Option α} {K : α → Prop} (h : wp (if c = true then a else b) K) (hc : c = false) : wp b K := by rwa [if_neg (by rw [hc]; decide)] at h
theorem wp_g {α : Type} {b : Bool} {t : Option α} {K : α → Prop} (h : wp (grd b t) K) : b = true ∧ wp t K := by
  unfold grd at h
  cases b with
  | true => exact ⟨rfl, h⟩
  | false => obtain ⟨x, h1, -⟩ := h; cases h1
theorem wp_b1 {α γ : Type} {t : Option α} {k : α → Option γ} {K : γ → Prop} (h : wp (bd1 t k) K) : ∃ a, t = some a ∧ wp (k a) K := by
  obtain ⟨x, h1, h2⟩ := h
  cases t with
  | none => cases h1
  | some a => exact ⟨a, rfl, x, h1, h2⟩
theorem wp_b2 {A1 A2 γ : Type} {t : Option (A1 × A2)} {k : A1 → A2 → Option γ} {K : γ → Prop} (h : wp (bd2 t k) K) : ∃ a1 a2, t = some (a1, a2) ∧ wp (k a1 a2) K := by
  obtain ⟨x, h1, h2⟩ := h
  cases t with
  | none => cases h1
  | some a =>
    obtain ⟨a1, a2⟩ := a
    exact ⟨a1, a2, rfl, x, h1, h2⟩
theorem wp_b3 {A1 A2 A3 γ : Type} {t : Option (A1 × A2 × A3)} {k : A1 → A2 → A3 → Option γ} {K : γ → Prop} (h : wp (bd3 t k) K) : ∃ a1 a2 a3, t = some (a1, a2, a3) ∧ wp (k a1 a2 a3) K := by
  obtain ⟨x, h1, h2⟩ := h
  cases t with
  | none => cases h1
  | some a =>
    obtain ⟨a1, a2, a3⟩ := a
    exact ⟨a1, a2, a3, rfl, x, h1, h2⟩
theorem wp_b4 {A1 A2 A3 A4 γ : Type} {t : Option (A1 × A2 × A3 × A4)} {k : A1 → A2 → A3 → A4 → Option γ} {K : γ → Prop} (h : wp (bd4 t k) K) : ∃ a1 a2 a3 a4, t = some (a1, a2, a3, a4) ∧ wp (k a1 a2 a3 a4) K := by
  obtain ⟨x, h1, h2⟩ := h
  cases t with
  | none => cases h1
  | some a =>
    obtain ⟨a1, a2, a3, a4⟩ := a
    exact ⟨a1, a2, a3, a4, rfl, x, h1, h2⟩
theorem wp_b5 {A1 A2 A3 A4 A5 γ : Type} {t : Option (A1 × A2 × A3 × A4 × A5)} {k : A1 → A2 → A3 → A4 → A5 → Option γ} {K : γ → Prop} (h : wp (bd5 t k) K) : ∃ a1 a2 a3 a4 a5, t = some (a1, a2, a3, a4, a5) ∧ wp (k a1 a2 a3 a4 a5) K := by
  obtain ⟨x, h1, h2⟩ := h
  cases t with
  | none => cases h1
  | some a =>
    obtain ⟨a1, a2, a3, a4, a5⟩ := a
    exact ⟨a1, a2, a3, a4, a5, rfl, x, h1, h2⟩
theorem wp_b6 {A1 A2 A3 A4 A5 A6 γ : Type} {t : Option (A1 × A2 × A3 × A4 × A5 × A6)} {k : A1 → A2 → A3 → A4 → A5 → A6 → Option γ} {K : γ → Prop} (h : wp (bd6 t k) K) : ∃ a1 a2 a3 a4 a5 a6, t = some (a1, a2, a3, a4, a5, a6) ∧ wp (k a1 a2 a3 a4 a5 a6) K := by
  obtain ⟨x, h1, h2⟩ := h
  cases t with
  | none => cases h1
  | some a =>
    obtain ⟨a1, a2, a3, a4, a5, a6⟩ := a
    exact ⟨a1, a2, a3, a4, a5, a6, rfl, x, h1, h2⟩
theorem wp_b7 {A1 A2 A3 A4 A5 A6 A7 γ : Type} {t : Option (A1 × A2 × A3 × A4 × A5 × A6 × A7)} {k : A1 → A2 → A3 → A4 → A5 → A6 → A7 → Option γ} {K : γ → Prop} (h : wp (bd7 t k) K) : ∃ a1 a2 a3 a4 a5 a6 a7, t = some (a1, a2, a3, a4, a5, a6, a7) ∧ wp (k a1 a2 a3 a4 a5 a6 a7) K := by
  obtain ⟨x, h1, h2⟩ := h
  cases t with
  | none => cases h1
  | some a =>
    obtain ⟨a1, a2, a3, a4, a5, a6, a7⟩ := a
    exact ⟨a1, a2, a3, a4, a5, a6, a7, rfl, x, h1, h2⟩
theorem wp_b8 {A1 A2 A3 A4 A5 A6 A7 A8 γ : Type} {t : Option (A1 × A2 × A3 × A4 × A5 × A6 × A7 × A8)} {k : A1 → A2 → A3 → A4 → A5 → A6 → A7 → A8 → Option γ} {K : γ → Prop} (h : wp (bd8 t k) K) : ∃ a1 a2 a3 a4 a5 a6 a7 a8, t = some (a1, a2, a3, a4, a5, a6, a7, a8) ∧ wp (k a1 a2 a3 a4 a5 a6 a7 a8) K := by
  obtain ⟨x, h1, h2⟩ := h
  cases t with
  | none => cases h1
  | some a =>
    obtain ⟨a1, a2, a3, a4, a5, a6, a7, a8⟩ := a
    exact ⟨a1, a2, a3, a4, a5, a6, a7, a8, rfl, x, h1, h2⟩
theorem wp_b9 {A1 A2 A3 A4 A5 A6 A7 A8 A9 γ : Type} {t : Option (A1 × A2 × A3 × A4 × A5 × A6 × A7 × A8 × A9)} {k : A1 → A2 → A3 → A4 → A5 → A6 → A7 → A8 → A9 → Option γ} {K : γ → Prop} (h : wp (bd9 t k) K) : ∃ a1 a2 a3 a4 a5 a6 a7 a8 a9, t = some (a1, a2, a3, a4, a5, a6, a7, a8, a9) ∧ wp (k a1 a2 a3 a4 a5 a6 a7 a8 a9) K := by
  obtain ⟨x, h1, h2⟩ := h
  cases t with
  | none => cases h1
  | some a =>
    obtain ⟨a1, a2, a3, a4, a5, a6, a7, a8, a9⟩ := a
    exact ⟨a1, a2, a3, a4, a5, a6, a7, a8, a9, rfl, x, h1, h2⟩
theorem wp_b10 {A1 A2 A3 A4 A5 A6 A7 A8 A9 A10 γ : Type} {t : Option (A1 × A2 × A3 × A4 × A5 × A6 × A7 × A8 × A9 × A10)} {k : A1 → A2 → A3 → A4 → A5 → A6 → A7 → A8 → A9 → A10 → Option γ} {K : γ → Prop} (h : wp (bd10 t k) K) : ∃ a1 a2 a3 a4 a5 a6 a7 a8 a9 a10, t = some (a1, a2, a3, a4, a5, a6, a7, a8, a9, a10) ∧ wp (k a1 a2 a3 a4 a5 a6 a7 a8 a9 a10) K := by
  obtain ⟨x, h1, h2⟩ := h
  cases t with
  | none => cases h1
  | some a =>
    obtain ⟨a1, a2, a3, a4, a5, a6, a7, a8, a9, a10⟩ := a
    exact ⟨a1, a2, a3, a4, a5, a6, a7, a8, a9, a10, rfl, x, h1, h2⟩
theorem wp_b11 {A1 A2 A3 A4 A5 A6 A7 A8 A9 A10 A11 γ : Type} {t : Option (A1 × A2 × A3 × A4 × A5 × A6 × A7 × A8 × A9 × A10 × A11)} {k : A1 → A2 → A3 → A4 → A5 → A6 → A7 → A8 → A9 → A10 → A11 → Option γ} {K : γ → Prop} (h : wp (bd11 t k) K) : ∃ a1 a2 a3 a4 a5 a6 a7 a8 a9 a10 a11, t = some (a1, a2, a3, a4, a5, a6, a7, a8, a9, a10, a11) ∧ wp (k a1 a2 a3 a4 a5 a6 a7 a8 a9 a10 a11) K := by
  obtain ⟨x, h1, h2⟩ := h
  cases t with
  | none => cases h1
  | some a =>
    obtain ⟨a1, a2, a3, a4, a5, a6, a7, a8, a9, a10, a11⟩ := a
    exact ⟨a1, a2, a3, a4, a5, a6, a7, a8, a9, a10, a11, rfl, x, h1, h2⟩
theorem wp_b12 {A1 A2 A3 A4 A5 A6 A7 A8 A9 A10 A11 A12 γ : Type} {t : Option (A1 × A2 × A3 × A4 × A5 × A6 × A7 × A8 × A9 × A10 × A11 × A12)} {k : A1 → A2 → A3 → A4 → A5 → A6 → A7 → A8 → A9 → A10 → A11 → A12 → Option γ} {K : γ → Prop} (h : wp (bd12 t k) K) : ∃ a1 a2 a3 a4 a5 a6 a7 a8 a9 a10 a11 a12, t = some (a1, a2, a3, a4, a5, a6, a7, a8, a9, a10, a11, a12) ∧ wp (k a1 a2 a3 a4 a5 a6 a7 a8 a9 a10 a11 a12) K := by
  obtain ⟨x, h1, h2⟩ := h
  cases t with
  | none => cases h1
  | some a =>
    obtain ⟨a1, a2, a3, a4, a5, a6, a7, a8, a9, a10, a11, a12⟩ := a
    exact ⟨a1, a2, a3, a4, a5, a6, a7, a8, a9, a10, a11, a12, rfl, x, h1, h2⟩
theorem wp_b13 {A1 A2 A3 A4 A5 A6 A7 A8 A9 A10 A11 A12 A13 γ : Type} {t : Option (A1 × A2 × A3 × A4 × A5 × A6 × A7 × A8 × A9 × A10 × A11 × A12 × A13)} {k : A1 → A2 → A3 → A4 → A5 → A6 → A7 → A8 → A9 → A10 → A11 → A12 → A13 → Option γ} {K : γ → Prop} (h : wp (bd13 t k) K) : ∃ a1 a2 a3 a4 a5 a6 a7 a8 a9 a10 a11 a12 a13, t = some (a1, a2, a3, a4, a5, a6, a7, a8, a9, a10, a11, a12, a13) ∧ wp (k a1 a2 a3 a4 a5 a6 a7 a8 a9 a10 a11 a12 a13) K := by
  obtain ⟨x, h1, h2⟩ := h
  cases t with
  | none => cases h1
  | some a =>
    obtain ⟨a1, a2, a3, a4, a5, a6, a7, a8, a9, a10, a11, a12, a13⟩ := a
    exact ⟨a1, a2, a3, a4, a5, a6, a7, a8, a9, a10, a11, a12, a13, rfl, x, h1, h2⟩
theorem wp_b14 {A1 A2 A3 A4 A5 A6 A7 A8 A9 A10 A11 A12 A13 A14 γ : Type} {t : Option (A1 × A2 × A3 × A4 × A5 × A6 × A7 × A8 × A9 × A10 × A11 × A12 × A13 × A14)} {k : A1 → A2 → A3 → A4 → A5 → A6 → A7 → A8 → A9 → A10 → A11 → A12 → A13 → A14 → Option γ} {K : γ → Prop} (h : wp (bd14 t k) K) : ∃ a1 a2 a3 a4 a5 a6 a7 a8 a9 a10 a11 a12 a13 a14, t = some (a1, a2, a3, a4, a5, a6, a7, a8, a9, a10, a11, a12, a13, a14) ∧ wp (k a1 a2 a3 a4 a5 a6 a7 a8 a9 a10 a11 a12 a13 a14) K := by
  obtain ⟨x, h1, h2⟩ := h
  cases t with
  | none => cases h1
  | some a =>
    obtain ⟨a1, a2, a3, a4, a5, a6, a7, a8, a9, a10, a11, a12, a13, a14⟩ := a
    exact ⟨a1, a2, a3, a4, a5, a6, a7, a8, a9, a10, a11, a12, a13, a14, rfl, x, h1, h2⟩
theorem jn_e {κ α : Type} {k0 : κ} {t : κ → Option α} {K : α → Prop} {P : Prop} (Hy : κ → Prop) (h : wp (jn k0 t) K) (JJ : Hy k0) (st : ∀ k, Hy k → wp (t k) K → P) : P := st k0 JJ h
def lq0 {α : Type} (f : (Option α) → Option α) : Nat → Option α
  | 0 => none
  | n + 1 => f (lq0 f n)
theorem lq0_e {α : Type} {f : (Option α) → Option α} {K : α → Prop} {N : Nat} (P : Prop) (h : wp (lq0 f N) K) (st : ∀ nx : Option α, (wp (nx) K → P) → wp (f nx) K → P) : P := by
  have key : ∀ (n : Nat), wp (lq0 f n) K → P := by
    intro n
    induction n with
    | zero =>
      intro h
      obtain ⟨x, h1, -⟩ := h
      cases h1
    | succ n ih =>
      intro h
      exact st _ ih h
  exact key N h
def lq1 {A1 α : Type} (f : (A1 → Option α) → A1 → Option α) : Nat → A1 → Option α
  | 0 => fun _ => none
  | n + 1 => f (lq1 f n)
theorem lq1_e {A1 α : Type} {f : (A1 → Option α) → A1 → Option α} {K : α → Prop} {N : Nat} {a1 : A1} (P : A1 → Prop) (h : wp (lq1 f N a1) K) (st : ∀ nx : A1 → Option α, (∀ a1, wp (nx a1) K → P a1) → ∀ a1, wp (f nx a1) K → P a1) : P a1 := by
  have key : ∀ (n : Nat), ∀ a1, wp (lq1 f n a1) K → P a1 := by
    intro n
    induction n with
    | zero =>
      intro a1 h
      obtain ⟨x, h1, -⟩ := h
      cases h1
    | succ n ih =>
      intro a1 h
      exact st _ ih _ h
  exact key N _ h
def lq2 {A1 A2 α : Type} (f : (A1 → A2 → Option α) → A1 → A2 → Option α) : Nat → A1 → A2 → Option α
  | 0 => fun _ _ => none
  | n + 1 => f (lq2 f n)
theorem lq2_e {A1 A2 α : Type} {f : (A1 → A2 → Option α) → A1 → A2 → Option α} {K : α → Prop} {N : Nat} {a1 : A1} {a2 : A2} (P : A1 → A2 → Prop) (h : wp (lq2 f N a1 a2) K) (st : ∀ nx : A1 → A2 → Option α, (∀ a1 a2, wp (nx a1 a2) K → P a1 a2) → ∀ a1 a2, wp (f nx a1 a2) K → P a1 a2) : P a1 a2 := by
  have key : ∀ (n : Nat), ∀ a1 a2, wp (lq2 f n a1 a2) K → P a1 a2 := by
    intro n
    induction n with
    | zero =>
      intro a1 a2 h
      obtain ⟨x, h1, -⟩ := h
      cases h1
    | succ n ih =>
      intro a1 a2 h
      exact st _ ih _ _ h
  exact key N _ _ h
def lq3 {A1 A2 A3 α : Type} (f : (A1 → A2 → A3 → Option α) → A1 → A2 → A3 → Option α) : Nat → A1 → A2 → A3 → Option α
  | 0 => fun _ _ _ => none
  | n + 1 => f (lq3 f n)
theorem lq3_e {A1 A2 A3 α : Type} {f : (A1 → A2 → A3 → Option α) → A1 → A2 → A3 → Option α} {K : α → Prop} {N : Nat} {a1 : A1} {a2 : A2} {a3 : A3} (P : A1 → A2 → A3 → Prop) (h : wp (lq3 f N a1 a2 a3) K) (st : ∀ nx : A1 → A2 → A3 → Option α, (∀ a1 a2 a3, wp (nx a1 a2 a3) K → P a1 a2 a3) → ∀ a1 a2 a3, wp (f nx a1 a2 a3) K → P a1 a2 a3) : P a1 a2 a3 := by
  have key : ∀ (n : Nat), ∀ a1 a2 a3, wp (lq3 f n a1 a2 a3) K → P a1 a2 a3 := by
    intro n
    induction n with
    | zero =>
      intro a1 a2 a3 h
      obtain ⟨x, h1, -⟩ := h
      cases h1
    | succ n ih =>
      intro a1 a2 a3 h
      exact st _ ih _ _ _ h
  exact key N _ _ _ h
def lq4 {A1 A2 A3 A4 α : Type} (f : (A1 → A2 → A3 → A4 → Option α) → A1 → A2 → A3 → A4 → Option α) : Nat → A1 → A2 → A3 → A4 → Option α
  | 0 => fun _ _ _ _ => none
  | n + 1 => f (lq4 f n)
theorem lq4_e {A1 A2 A3 A4 α : Type} {f : (A1 → A2 → A3 → A4 → Option α) → A1 → A2 → A3 → A4 → Option α} {K : α → Prop} {N : Nat} {a1 : A1} {a2 : A2} {a3 : A3} {a4 : A4} (P : A1 → A2 → A3 → A4 → Prop) (h : wp (lq4 f N a1 a2 a3 a4) K) (st : ∀ nx : A1 → A2 → A3 → A4 → Option α, (∀ a1 a2 a3 a4, wp (nx a1 a2 a3 a4) K → P a1 a2 a3 a4) → ∀ a1 a2 a3 a4, wp (f nx a1 a2 a3 a4) K → P a1 a2 a3 a4) : P a1 a2 a3 a4 := by
  have key : ∀ (n : Nat), ∀ a1 a2 a3 a4, wp (lq4 f n a1 a2 a3 a4) K → P a1 a2 a3 a4 := by
    intro n
    induction n with
    | zero =>
      intro a1 a2 a3 a4 h
      obtain ⟨x, h1, -⟩ := h
      cases h1
    | succ n ih =>
      intro a1 a2 a3 a4 h
      exact st _ ih _ _ _ _ h
  exact key N _ _ _ _ h
def lq5 {A1 A2 A3 A4 A5 α : Type} (f : (A1 → A2 → A3 → A4 → A5 → Option α) → A1 → A2 → A3 → A4 → A5 → Option α) : Nat → A1 → A2 → A3 → A4 → A5 → Option α
  | 0 => fun _ _ _ _ _ => none
  | n + 1 => f (lq5 f n)
theorem lq5_e {A1 A2 A3 A4 A5 α : Type} {f : (A1 → A2 → A3 → A4 → A5 → Option α) → A1 → A2 → A3 → A4 → A5 → Option α} {K : α → Prop} {N : Nat} {a1 : A1} {a2 : A2} {a3 : A3} {a4 : A4} {a5 : A5} (P : A1 → A2 → A3 → A4 → A5 → Prop) (h : wp (lq5 f N a1 a2 a3 a4 a5) K) (st : ∀ nx : A1 → A2 → A3 → A4 → A5 → Option α, (∀ a1 a2 a3 a4 a5, wp (nx a1 a2 a3 a4 a5) K → P a1 a2 a3 a4 a5) → ∀ a1 a2 a3 a4 a5, wp (f nx a1 a2 a3 a4 a5) K → P a1 a2 a3 a4 a5) : P a1 a2 a3 a4 a5 := by
  have key : ∀ (n : Nat), ∀ a1 a2 a3 a4 a5, wp (lq5 f n a1 a2 a3 a4 a5) K → P a1 a2 a3 a4 a5 := by
    intro n
    induction n with
    | zero =>
      intro a1 a2 a3 a4 a5 h
      obtain ⟨x, h1, -⟩ := h
      cases h1
    | succ n ih =>
      intro a1 a2 a3 a4 a5 h
      exact st _ ih _ _ _ _ _ h
  exact key N _ _ _ _ _ h
def lq6 {A1 A2 A3 A4 A5 A6 α : Type} (f : (A1 → A2 → A3 → A4 → A5 → A6 → Option α) → A1 → A2 → A3 → A4 → A5 → A6 → Option α) : Nat → A1 → A2 → A3 → A4 → A5 → A6 → Option α
  | 0 => fun _ _ _ _ _ _ => none
  | n + 1 => f (lq6 f n)
theorem lq6_e {A1 A2 A3 A4 A5 A6 α : Type} {f : (A1 → A2 → A3 → A4 → A5 → A6 → Option α) → A1 → A2 → A3 → A4 → A5 → A6 → Option α} {K : α → Prop} {N : Nat} {a1 : A1} {a2 : A2} {a3 : A3} {a4 : A4} {a5 : A5} {a6 : A6} (P : A1 → A2 → A3 → A4 → A5 → A6 → Prop) (h : wp (lq6 f N a1 a2 a3 a4 a5 a6) K) (st : ∀ nx : A1 → A2 → A3 → A4 → A5 → A6 → Option α, (∀ a1 a2 a3 a4 a5 a6, wp (nx a1 a2 a3 a4 a5 a6) K → P a1 a2 a3 a4 a5 a6) → ∀ a1 a2 a3 a4 a5 a6, wp (f nx a1 a2 a3 a4 a5 a6) K → P a1 a2 a3 a4 a5 a6) : P a1 a2 a3 a4 a5 a6 := by
  have key : ∀ (n : Nat), ∀ a1 a2 a3 a4 a5 a6, wp (lq6 f n a1 a2 a3 a4 a5 a6) K → P a1 a2 a3 a4 a5 a6 := by
    intro n
    induction n with
    | zero =>
      intro a1 a2 a3 a4 a5 a6 h
      obtain ⟨x, h1, -⟩ := h
      cases h1
    | succ n ih =>
      intro a1 a2 a3 a4 a5 a6 h
      exact st _ ih _ _ _ _ _ _ h
  exact key N _ _ _ _ _ _ h
def lq7 {A1 A2 A3 A4 A5 A6 A7 α : Type} (f : (A1 → A2 → A3 → A4 → A5 → A6 → A7 → Option α) → A1 → A2 → A3 → A4 → A5 → A6 → A7 → Option α) : Nat → A1 → A2 → A3 → A4 → A5 → A6 → A7 → Option α
  | 0 => fun _ _ _ _ _ _ _ => none
  | n + 1 => f (lq7 f n)
theorem lq7_e {A1 A2 A3 A4 A5 A6 A7 α : Type} {f : (A1 → A2 → A3 → A4 → A5 → A6 → A7 → Option α) → A1 → A2 → A3 → A4 → A5 → A6 → A7 → Option α} {K : α → Prop} {N : Nat} {a1 : A1} {a2 : A2} {a3 : A3} {a4 : A4} {a5 : A5} {a6 : A6} {a7 : A7} (P : A1 → A2 → A3 → A4 → A5 → A6 → A7 → Prop) (h : wp (lq7 f N a1 a2 a3 a4 a5 a6 a7) K) (st : ∀ nx : A1 → A2 → A3 → A4 → A5 → A6 → A7 → Option α, (∀ a1 a2 a3 a4 a5 a6 a7, wp (nx a1 a2 a3 a4 a5 a6 a7) K → P a1 a2 a3 a4 a5 a6 a7) → ∀ a1 a2 a3 a4 a5 a6 a7, wp (f nx a1 a2 a3 a4 a5 a6 a7) K → P a1 a2 a3 a4 a5 a6 a7) : P a1 a2 a3 a4 a5 a6 a7 := by
  have key : ∀ (n : Nat), ∀ a1 a2 a3 a4 a5 a6 a7, wp (lq7 f n a1 a2 a3 a4 a5 a6 a7) K → P a1 a2 a3 a4 a5 a6 a7 := by
    intro n
    induction n with
    | zero =>
      intro a1 a2 a3 a4 a5 a6 a7 h
      obtain ⟨x, h1, -⟩ := h
      cases h1
    | succ n ih =>
      intro a1 a2 a3 a4 a5 a6 a7 h
      exact st _ ih _ _ _ _ _ _ _ h
  exact key N _ _ _ _ _ _ _ h
def lq8 {A1 A2 A3 A4 A5 A6 A7 A8 α : Type} (f : (A1 → A2 → A3 → A4 → A5 → A6 → A7 → A8 → Option α) → A1 → A2 → A3 → A4 → A5 → A6 → A7 → A8 → Option α) : Nat → A1 → A2 → A3 → A4 → A5 → A6 → A7 → A8 → Option α
  | 0 => fun _ _ _ _ _ _ _ _ => none
  | n + 1 => f (lq8 f n)
theorem lq8_e {A1 A2 A3 A4 A5 A6 A7 A8 α : Type} {f : (A1 → A2 → A3 → A4 → A5 → A6 → A7 → A8 → Option α) → A1 → A2 → A3 → A4 → A5 → A6 → A7 → A8 → Option α} {K : α → Prop} {N : Nat} {a1 : A1} {a2 : A2} {a3 : A3} {a4 : A4} {a5 : A5} {a6 : A6} {a7 : A7} {a8 : A8} (P : A1 → A2 → A3 → A4 → A5 → A6 → A7 → A8 → Prop) (h : wp (lq8 f N a1 a2 a3 a4 a5 a6 a7 a8) K) (st : ∀ nx : A1 → A2 → A3 → A4 → A5 → A6 → A7 → A8 → Option α, (∀ a1 a2 a3 a4 a5 a6 a7 a8, wp (nx a1 a2 a3 a4 a5 a6 a7 a8) K → P a1 a2 a3 a4 a5 a6 a7 a8) → ∀ a1 a2 a3 a4 a5 a6 a7 a8, wp (f nx a1 a2 a3 a4 a5 a6 a7 a8) K → P a1 a2 a3 a4 a5 a6 a7 a8) : P a1 a2 a3 a4 a5 a6 a7 a8 := by
  have key : ∀ (n : Nat), ∀ a1 a2 a3 a4 a5 a6 a7 a8, wp (lq8 f n a1 a2 a3 a4 a5 a6 a7 a8) K → P a1 a2 a3 a4 a5 a6 a7 a8 := by
    intro n
    induction n with
    | zero =>
      intro a1 a2 a3 a4 a5 a6 a7 a8 h
      obtain ⟨x, h1, -⟩ := h
      cases h1
    | succ n ih =>
      intro a1 a2 a3 a4 a5 a6 a7 a8 h
      exact st _ ih _ _ _ _ _ _ _ _ h
  exact key N _ _ _ _ _ _ _ _ h
def lq9 {A1 A2 A3 A4 A5 A6 A7 A8 A9 α : Type} (f : (A1 → A2 → A3 → A4 → A5 → A6 → A7 → A8 → A9 → Option α) → A1 → A2 → A3 → A4 → A5 → A6 → A7 → A8 → A9 → Option α) : Nat → A1 → A2 → A3 → A4 → A5 → A6 → A7 → A8 → A9 → Option α
  | 0 => fun _ _ _ _ _ _ _ _ _ => none
  | n + 1 => f (lq9 f n)
theorem lq9_e {A1 A2 A3 A4 A5 A6 A7 A8 A9 α : Type} {f : (A1 → A2 → A3 → A4 → A5 → A6 → A7 → A8 → A9 → Option α) → A1 → A2 → A3 → A4 → A5 → A6 → A7 → A8 → A9 → Option α} {K : α → Prop} {N : Nat} {a1 : A1} {a2 : A2} {a3 : A3} {a4 : A4} {a5 : A5} {a6 : A6} {a7 : A7} {a8 : A8} {a9 : A9} (P : A1 → A2 → A3 → A4 → A5 → A6 → A7 → A8 → A9 → Prop) (h : wp (lq9 f N a1 a2 a3 a4 a5 a6 a7 a8 a9) K) (st : ∀ nx : A1 → A2 → A3 → A4 → A5 → A6 → A7 → A8 → A9 → Option α, (∀ a1 a2 a3 a4 a5 a6 a7 a8 a9, wp (nx a1 a2 a3 a4 a5 a6 a7 a8 a9) K → P a1 a2 a3 a4 a5 a6 a7 a8 a9) → ∀ a1 a2 a3 a4 a5 a6 a7 a8 a9, wp (f nx a1 a2 a3 a4 a5 a6 a7 a8 a9) K → P a1 a2 a3 a4 a5 a6 a7 a8 a9) : P a1 a2 a3 a4 a5 a6 a7 a8 a9 := by
  have key : ∀ (n : Nat), ∀ a1 a2 a3 a4 a5 a6 a7 a8 a9, wp (lq9 f n a1 a2 a3 a4 a5 a6 a7 a8 a9) K → P a1 a2 a3 a4 a5 a6 a7 a8 a9 := by
    intro n
    induction n with
    | zero =>
      intro a1 a2 a3 a4 a5 a6 a7 a8 a9 h
      obtain ⟨x, h1, -⟩ := h
      cases h1
    | succ n ih =>
      intro a1 a2 a3 a4 a5 a6 a7 a8 a9 h
      exact st _ ih _ _ _ _ _ _ _ _ _ h
  exact key N _ _ _ _ _ _ _ _ _ h
def lq10 {A1 A2 A3 A4 A5 A6 A7 A8 A9 A10 α : Type} (f : (A1 → A2 → A3 → A4 → A5 → A6 → A7 → A8 → A9 → A10 → Option α) → A1 → A2 → A3 → A4 → A5 → A6 → A7 → A8 → A9 → A10 → Option α) : Nat → A1 → A2 → A3 → A4 → A5 → A6 → A7 → A8 → A9 → A10 → Option α
  | 0 => fun _ _ _ _ _ _ _ _ _ _ => none
  | n + 1 => f (lq10 f n)
theorem lq10_e {A1 A2 A3 A4 A5 A6 A7 A8 A9 A10 α : Type} {f : (A1 → A2 → A3 → A4 → A5 → A6 → A7 → A8 → A9 → A10 → Option α) → A1 → A2 → A3 → A4 → A5 → A6 → A7 → A8 → A9 → A10 → Option α} {K : α → Prop} {N : Nat} {a1 : A1} {a2 : A2} {a3 : A3} {a4 : A4} {a5 : A5} {a6 : A6} {a7 : A7} {a8 : A8} {a9 : A9} {a10 : A10} (P : A1 → A2 → A3 → A4 → A5 → A6 → A7 → A8 → A9 → A10 → Prop) (h : wp (lq10 f N a1 a2 a3 a4 a5 a6 a7 a8 a9 a10) K) (st : ∀ nx : A1 → A2 → A3 → A4 → A5 → A6 → A7 → A8 → A9 → A10 → Option α, (∀ a1 a2 a3 a4 a5 a6 a7 a8 a9 a10, wp (nx a1 a2 a3 a4 a5 a6 a7 a8 a9 a10) K → P a1 a2 a3 a4 a5 a6 a7 a8 a9 a10) → ∀ a1 a2 a3 a4 a5 a6 a7 a8 a9 a10, wp (f nx a1 a2 a3 a4 a5 a6 a7 a8 a9 a10) K → P a1 a2 a3 a4 a5 a6 a7 a8 a9 a10) : P a1 a2 a3 a4 a5 a6 a7 a8 a9 a10 := by
  have key : ∀ (n : Nat), ∀ a1 a2 a3 a4 a5 a6 a7 a8 a9 a10, wp (lq10 f n a1 a2 a3 a4 a5 a6 a7 a8 a9 a10) K → P a1 a2 a3 a4 a5 a6 a7 a8 a9 a10 := by
    intro n
    induction n with
    | zero =>
      intro a1 a2 a3 a4 a5 a6 a7 a8 a9 a10 h
      obtain ⟨x, h1, -⟩ := h
      cases h1
    | succ n ih =>
      intro a1 a2 a3 a4 a5 a6 a7 a8 a9 a10 h
      exact st _ ih _ _ _ _ _ _ _ _ _ _ h
  exact key N _ _ _ _ _ _ _ _ _ _ h
def lq11 {A1 A2 A3 A4 A5 A6 A7 A8 A9 A10 A11 α : Type} (f : (A1 → A2 → A3 → A4 → A5 → A6 → A7 → A8 → A9 → A10 → A11 → Option α) → A1 → A2 → A3 → A4 → A5 → A6 → A7 → A8 → A9 → A10 → A11 → Option α) : Nat → A1 → A2 → A3 → A4 → A5 → A6 → A7 → A8 → A9 → A10 → A11 → Option α
  | 0 => fun _ _ _ _ _ _ _ _ _ _ _ => none
  | n + 1 => f (lq11 f n)
theorem lq11_e {A1 A2 A3 A4 A5 A6 A7 A8 A9 A10 A11 α : Type} {f : (A1 → A2 → A3 → A4 → A5 → A6 → A7 → A8 → A9 → A10 → A11 → Option α) → A1 → A2 → A3 → A4 → A5 → A6 → A7 → A8 → A9 → A10 → A11 → Option α} {K : α → Prop} {N : Nat} {a1 : A1} {a2 : A2} {a3 : A3} {a4 : A4} {a5 : A5} {a6 : A6} {a7 : A7} {a8 : A8} {a9 : A9} {a10 : A10} {a11 : A11} (P : A1 → A2 → A3 → A4 → A5 → A6 → A7 → A8 → A9 → A10 → A11 → Prop) (h : wp (lq11 f N a1 a2 a3 a4 a5 a6 a7 a8 a9 a10 a11) K) (st : ∀ nx : A1 → A2 → A3 → A4 → A5 → A6 → A7 → A8 → A9 → A10 → A11 → Option α, (∀ a1 a2 a3 a4 a5 a6 a7 a8 a9 a10 a11, wp (nx a1 a2 a3 a4 a5 a6 a7 a8 a9 a10 a11) K → P a1 a2 a3 a4 a5 a6 a7 a8 a9 a10 a11) → ∀ a1 a2 a3 a4 a5 a6 a7 a8 a9 a10 a11, wp (f nx a1 a2 a3 a4 a5 a6 a7 a8 a9 a10 a11) K → P a1 a2 a3 a4 a5 a6 a7 a8 a9 a10 a11) : P a1 a2 a3 a4 a5 a6 a7 a8 a9 a10 a11 := by
  have key : ∀ (n : Nat), ∀ a1 a2 a3 a4 a5 a6 a7 a8 a9 a10 a11, wp (lq11 f n a1 a2 a3 a4 a5 a6 a7 a8 a9 a10 a11) K → P a1 a2 a3 a4 a5 a6 a7 a8 a9 a10 a11 := by
    intro n
    induction n with
    | zero =>
      intro a1 a2 a3 a4 a5 a6 a7 a8 a9 a10 a11 h
      obtain ⟨x, h1, -⟩ := h
      cases h1
    | succ n ih =>
      intro a1 a2 a3 a4 a5 a6 a7 a8 a9 a10 a11 h
      exact st _ ih _ _ _ _ _ _ _ _ _ _ _ h
  exact key N _ _ _ _ _ _ _ _ _ _ _ h
def lq12 {A1 A2 A3 A4 A5 A6 A7 A8 A9 A10 A11 A12 α : Type} (f : (A1 → A2 → A3 → A4 → A5 → A6 → A7 → A8 → A9 → A10 → A11 → A12 → Option α) → A1 → A2 → A3 → A4 → A5 → A6 → A7 → A8 → A9 → A10 → A11 → A12 → Option α) : Nat → A1 → A2 → A3 → A4 → A5 → A6 → A7 → A8 → A9 → A10 → A11 → A12 → Option α
  | 0 => fun _ _ _ _ _ _ _ _ _ _ _ _ => none
  | n + 1 => f (lq12 f n)
theorem lq12_e {A1 A2 A3 A4 A5 A6 A7 A8 A9 A10 A11 A12 α : Type} {f : (A1 → A2 → A3 → A4 → A5 → A6 → A7 → A8 → A9 → A10 → A11 → A12 → Option α) → A1 → A2 → A3 → A4 → A5 → A6 → A7 → A8 → A9 → A10 → A11 → A12 → Option α} {K : α → Prop} {N : Nat} {a1 : A1} {a2 : A2} {a3 : A3} {a4 : A4} {a5 : A5} {a6 : A6} {a7 : A7} {a8 : A8} {a9 : A9} {a10 : A10} {a11 : A11} {a12 : A12} (P : A1 → A2 → A3 → A4 → A5 → A6 → A7 → A8 → A9 → A10 → A11 → A12 → Prop) (h : wp (lq12 f N a1 a2 a3 a4 a5 a6 a7 a8 a9 a10 a11 a12) K) (st : ∀ nx : A1 → A2 → A3 → A4 → A5 → A6 → A7 → A8 → A9 → A10 → A11 → A12 → Option α, (∀ a1 a2 a3 a4 a5 a6 a7 a8 a9 a10 a11 a12, wp (nx a1 a2 a3 a4 a5 a6 a7 a8 a9 a10 a11 a12) K → P a1 a2 a3 a4 a5 a6 a7 a8 a9 a10 a11 a12) → ∀ a1 a2 a3 a4 a5 a6 a7 a8 a9 a10 a11 a12, wp (f nx a1 a2 a3 a4 a5 a6 a7 a8 a9 a10 a11 a12) K → P a1 a2 a3 a4 a5 a6 a7 a8 a9 a10 a11 a12) : P a1 a2 a3 a4 a5 a6 a7 a8 a9 a10 a11 a12 := by
  have key : ∀ (n : Nat), ∀ a1 a2 a3 a4 a5 a6 a7 a8 a9 a10 a11 a12, wp (lq12 f n a1 a2 a3 a4 a5 a6 a7 a8 a9 a10 a11 a12) K → P a1 a2 a3 a4 a5 a6 a7 a8 a9 a10 a11 a12 := by
    intro n
    induction n with
    | zero =>
      intro a1 a2 a3 a4 a5 a6 a7 a8 a9 a10 a11 a12 h
      obtain ⟨x, h1, -⟩ := h
      cases h1
    | succ n ih =>
      intro a1 a2 a3 a4 a5 a6 a7 a8 a9 a10 a11 a12 h
      exact st _ ih _ _ _ _ _ _ _ _ _ _ _ _ h
  exact key N _ _ _ _ _ _ _ _ _ _ _ _ h
/-! what stays the same along a method's walk -/
abbrev gG : Type := va_G × ClassId × ClassId × ClassId × ClassId
abbrev tyG (G : gG) : List (ClassId × FieldType) := [(G.2.1, .int), (G.2.2.1, .long), (G.2.2.2.1, .byte), (G.2.2.2.2, .array .long)]
abbrev XC : Type := (Program × Launch × Env × Room × State × MethodId) × (Array Value × List Frame × Method × Code × (State → Prop)) × (gG × (Nat → Prop) × Nat)
abbrev xp (g : XC) : Program := g.1.1
abbrev xl (g : XC) : Launch := g.1.2.1
abbrev xe (g : XC) : Env := g.1.2.2.1
abbrev xR (g : XC) : Room := g.1.2.2.2.1
abbrev xs (g : XC) : State := g.1.2.2.2.2.1
abbrev xm (g : XC) : MethodId := g.1.2.2.2.2.2
abbrev xa (g : XC) : Array Value := g.2.1.1
abbrev xb (g : XC) : List Frame := g.2.1.2.1
abbrev xM (g : XC) : Method := g.2.1.2.2.1
abbrev xc (g : XC) : Code := g.2.1.2.2.2.1
abbrev xQ (g : XC) : State → Prop := g.2.1.2.2.2.2
abbrev xG (g : XC) : gG := g.2.2.1
abbrev xA (g : XC) : Nat → Prop := g.2.2.2.1
abbrev xn (g : XC) : Nat := g.2.2.2.2
def WW (g : XC) (k n : Nat) (ws : va_W) (pc : Nat) (L : List (Nat × Value)) (st : List Value) : Prop :=
  ∀ (H : Heap) (locs : List Loc) (ls : Array Slot), va_P (xG g).1 vwCl ws H → va_D (xA g) ws → va_S (xA g) (xs g).heap H locs → lv_has ls (xn g) L →
    W (xp g) (xl g) (xe g) (xR g) (xs g) (xm g) (xa g) (xb g) (xM g) (xc g) H locs k n (xQ g) (F0 (xm g) pc ls st)
def XOk (g : XC) (cc : ByteArray) (own : String) (Ts : List Cond) (R0 : Room) (N0 : Nat) : Prop :=
  (xp g).tables.exec = Jvm.exec ∧ (xc g).code = cc ∧ (xc g).maxLocals = xn g ∧ (xs g).vm.findClass own = some (xm g).cls ∧ (∀ w ∈ Ts, w.before (xa g) (xs g) = true) ∧ va_K (xG g).1 vwCl (tyG (xG g)) (xs g) ∧ (∀ q, (xs g).heap.size ≤ q → xA g q) ∧ xR g = R0 ∧ xn g = N0
abbrev aI (G : gG) (n : Nat) (a : Nat → Int) : va_E := .inl (G.2.1, n, .inl (jA a))
abbrev aB (G : gG) (n : Nat) (a : Nat → Int) : va_E := .inl (G.2.2.2.1, n, .inl (jA a))
abbrev aJ (G : gG) (n : Nat) (a : Nat → Int64) : va_E := .inl (G.2.2.1, n, .inr (.inl a))
abbrev aL (G : gG) (n : Nat) (a : Nat → Nat) : va_E := .inl (G.2.2.2.2, n, .inr (.inr (.inr (.inr (fun k => some (a k))))))
/-! locals, by their places, in order -/
def lins (i : Nat) (v : Value) : List (Nat × Value) → List (Nat × Value)
  | [] => [(i, v)]
  | q :: t => bif Nat.blt i q.1 then (i, v) :: q :: t else q :: lins i v t
theorem lins_mem {i : Nat} {v : Value} {q : Nat × Value} : ∀ {L : List (Nat × Value)}, q ∈ lins i v L → q ∈ (i, v) :: L
  | [], h => h
  | a :: t, h => by
    unfold lins at h
    cases hb : Nat.blt i a.1 with
    | true => rw [hb] at h; exact h
    | false =>
      rw [hb] at h
      rcases List.mem_cons.mp h with rfl | h
      · exact List.mem_cons_of_mem _ List.mem_cons_self
      · rcases List.mem_cons.mp (lins_mem h) with rfl | h
        · exact List.mem_cons_self
        · exact List.mem_cons_of_mem _ (List.mem_cons_of_mem _ h)
theorem lins_has {ls : Array Slot} {nL i : Nat} {v : Value} {L : List (Nat × Value)} (h : lv_has ls nL ((i, v) :: L)) : lv_has ls nL (lins i v L) := ⟨h.1, h.2.1, fun q hq => h.2.2 q (lins_mem hq)⟩
def lput (i : Nat) (v : Value) (L : List (Nat × Value)) : List (Nat × Value) := lins i v (L.filter (fun q => !(q.1 == i) && !(q.1 + 1 == i && q.2.category == 2)))
def lputL (i : Nat) (v : Value) (L : List (Nat × Value)) : List (Nat × Value) := lins i v (L.filter (fun q => !(q.1 == i) && (!(q.1 == i + 1) && !(q.1 + 1 == i && q.2.category == 2))))
section ROWS
variable {g : XC} {k n : Nat} {ws : va_W} {pc : Nat} {L : List (Nat × Value)} {st : List Value} {cc : ByteArray} {own : String} {Ts : List Cond} {R0 : Room} {N0 : Nat} {α : Type} {K : α → Prop} {t u : Option α}
theorem r_iconst (C : XOk g cc own Ts R0 N0) {z : Int} (d : decode cc pc = .ok (.iconst z, 1)) (kk : WW g k n ws (pc + 1) L (.int (jz z) :: st)) : WW g k n ws pc L st := fun H locs ls hP hD hS hl => lv_iconst C.1 C.2.1 d rfl (kk H locs ls hP hD hS hl)
theorem r_bipush (C : XOk g cc own Ts R0 N0) {z : Int} (d : decode cc pc = .ok (.bipush z, 2)) (hz : (Int8.ofInt z).toInt32 = jz z) (kk : WW g k n ws (pc + 2) L (.int (jz z) :: st)) : WW g k n ws pc L st := fun H locs ls hP hD hS hl => lv_bipush C.1 C.2.1 d hz (kk H locs ls hP hD hS hl)
theorem r_sipush (C : XOk g cc own Ts R0 N0) {z : Int} (d : decode cc pc = .ok (.sipush z, 3)) (hz : (Int16.ofInt z).toInt32 = jz z) (kk : WW g k n ws (pc + 3) L (.int (jz z) :: st)) : WW g k n ws pc L st := fun H locs ls hP hD hS hl => lv_sipush C.1 C.2.1 d hz (kk H locs ls hP hD hS hl)
theorem r_ldc (C : XOk g cc own Ts R0 N0) {i : Nat} {v : Int32} (z : Int) (hz : jz z = v) (d : decode cc pc = .ok (.ldc i, 2)) (hw : Jvm.Cond.constant own i v ∈ Ts) (kk : WW g k n ws (pc + 2) L (.int (jz z) :: st)) : WW g k n ws pc L st := fun H locs ls hP hD hS hl => lv_ldc C.1 C.2.1 C.2.2.2.1 (C.2.2.2.2.1 _ hw) d (hz ▸ kk H locs ls hP hD hS hl)
theorem r_ldcw (C : XOk g cc own Ts R0 N0) {i : Nat} {v : Int32} (z : Int) (hz : jz z = v) (d : decode cc pc = .ok (.ldc_w i, 3)) (hw : Jvm.Cond.constant own i v ∈ Ts) (kk : WW g k n ws (pc + 3) L (.int (jz z) :: st)) : WW g k n ws pc L st := fun H locs ls hP hD hS hl => lv_ldcw C.1 C.2.1 C.2.2.2.1 (C.2.2.2.2.1 _ hw) d (hz ▸ kk H locs ls hP hD hS hl)
theorem r_ldc2 (C : XOk g cc own Ts R0 N0) {i : Nat} {v : Int64} (d : decode cc pc = .ok (.ldc2_w i, 3)) (hw : Jvm.Cond.constantLong own i v ∈ Ts) (kk : WW g k n ws (pc + 3) L (.long v :: st)) : WW g k n ws pc L st := fun H locs ls hP hD hS hl => lv_ldc2 C.1 C.2.1 C.2.2.2.1 (C.2.2.2.2.1 _ hw) d (kk H locs ls hP hD hS hl)
theorem r_lconst (C : XOk g cc own Ts R0 N0) {z : Fin 2} {v : Int64} (d : decode cc pc = .ok (.lconst z, 1)) (hv : Int64.ofNat (z : Nat) = v) (kk : WW g k n ws (pc + 1) L (.long v :: st)) : WW g k n ws pc L st := fun H locs ls hP hD hS hl => lv_lconst C.1 C.2.1 d hv (kk H locs ls hP hD hS hl)
theorem r_iload_n (C : XOk g cc own Ts R0 N0) {j : Fin 4} {i : Nat} {x : Int32} (d : decode cc pc = .ok (.iload_n j, 1)) (hj : (j : Nat) = i) (q : Nat) (hq : L[q]? = some (i, .int x)) (kk : WW g k n ws (pc + 1) L (.int x :: st)) : WW g k n ws pc L st := fun H locs ls hP hD hS hl => lv_iload_n C.1 C.2.1 d hj (lv_at hl q hq) (kk H locs ls hP hD hS hl)
theorem r_iload (C : XOk g cc own Ts R0 N0) {i : Nat} {x : Int32} (d : decode cc pc = .ok (.iload i, 2)) (q : Nat) (hq : L[q]? = some (i, .int x)) (kk : WW g k n ws (pc + 2) L (.int x :: st)) : WW g k n ws pc L st := fun H locs ls hP hD hS hl => lv_iload C.1 C.2.1 d (lv_at hl q hq) (kk H locs ls hP hD hS hl)
theorem r_lload_n (C : XOk g cc own Ts R0 N0) {j : Fin 4} {i : Nat} {x : Int64} (d : decode cc pc = .ok (.lload_n j, 1)) (hj : (j : Nat) = i) (q : Nat) (hq : L[q]? = some (i, .long x)) (kk : WW g k n ws (pc + 1) L (.long x :: st)) : WW g k n ws pc L st := fun H locs ls hP hD hS hl => lv_lload_n C.1 C.2.1 d hj (lv_at hl q hq) (kk H locs ls hP hD hS hl)
theorem r_aload_n (C : XOk g cc own Ts R0 N0) {j : Fin 4} {i : Nat} {x : Nat} (d : decode cc pc = .ok (.aload_n j, 1)) (hj : (j : Nat) = i) (q : Nat) (hq : L[q]? = some (i, .ref x)) (kk : WW g k n ws (pc + 1) L (.ref x :: st)) : WW g k n ws pc L st := fun H locs ls hP hD hS hl => lv_aload_n C.1 C.2.1 d hj (lv_at hl q hq) (kk H locs ls hP hD hS hl)
theorem r_istore_n (C : XOk g cc own Ts R0 N0) {j : Fin 4} {i : Nat} {x : Int32} (d : decode cc pc = .ok (.istore_n j, 1)) (hj : (j : Nat) = i) (hi : i < N0) {L' : List (Nat × Value)} (hL : lput i (.int x) L = L') (kk : WW g k n ws (pc + 1) L' st) : WW g k n ws pc L (.int x :: st) := fun H locs ls hP hD hS hl => lv_istore_n C.1 C.2.1 d hj hl (by rw [C.2.2.2.2.2.2.2.2]; exact hi) rfl (fun ls hl => kk H locs ls hP hD hS (hL ▸ lins_has hl))
theorem r_istore (C : XOk g cc own Ts R0 N0) {i : Nat} {x : Int32} (d : decode cc pc = .ok (.istore i, 2)) (hi : i < N0) {L' : List (Nat × Value)} (hL : lput i (.int x) L = L') (kk : WW g k n ws (pc + 2) L' st) : WW g k n ws pc L (.int x :: st) := fun H locs ls hP hD hS hl => lv_istore C.1 C.2.1 d hl (by rw [C.2.2.2.2.2.2.2.2]; exact hi) rfl (fun ls hl => kk H locs ls hP hD hS (hL ▸ lins_has hl))
theorem r_lstore_n (C : XOk g cc own Ts R0 N0) {j : Fin 4} {i : Nat} {x : Int64} (d : decode cc pc = .ok (.lstore_n j, 1)) (hj : (j : Nat) = i) (hi : i + 1 < N0) {L' : List (Nat × Value)} (hL : lputL i (.long x) L = L') (kk : WW g k n ws (pc + 1) L' st) : WW g k n ws pc L (.long x :: st) := fun H locs ls hP hD hS hl => lv_lstore_n C.1 C.2.1 d hj hl (by rw [C.2.2.2.2.2.2.2.2]; exact hi) rfl (fun ls hl => kk H locs ls hP hD hS (hL ▸ lins_has hl))
theorem r_astore_n (C : XOk g cc own Ts R0 N0) {j : Fin 4} {i : Nat} {x : Nat} (d : decode cc pc = .ok (.astore_n j, 1)) (hj : (j : Nat) = i) (hi : i < N0) {L' : List (Nat × Value)} (hL : lput i (.ref x) L = L') (kk : WW g k n ws (pc + 1) L' st) : WW g k n ws pc L (.ref x :: st) := fun H locs ls hP hD hS hl => lv_astore_n C.1 C.2.1 d hj hl (by rw [C.2.2.2.2.2.2.2.2]; exact hi) rfl (fun ls hl => kk H locs ls hP hD hS (hL ▸ lins_has hl))
theorem r_iinc (C : XOk g cc own Ts R0 N0) {i : Nat} {c z : Int} (d : decode cc pc = .ok (.iinc i c, 3)) (q : Nat) (hq : L[q]? = some (i, .int (jz z))) (hi : i < N0) {L' : List (Nat × Value)} (hL : lput i (.int (jz (z + c))) L = L') (kk : WW g k n ws (pc + 3) L' st) : WW g k n ws pc L st := fun H locs ls hP hD hS hl => lv_iinc C.1 C.2.1 d hl hq (jz_add z c).symm (by rw [C.2.2.2.2.2.2.2.2]; exact hi) rfl (fun ls hl => kk H locs ls hP hD hS (hL ▸ lins_has hl))
theorem r_sub (ks : List Nat) {L' : List (Nat × Value)} (hL : lv_pick L ks = L') (kk : WW g k n ws pc L' st) : WW g k n ws pc L st := fun H locs ls hP hD hS hl => kk H locs ls hP hD hS (lv_sub hl ks hL)
theorem r_iadd (C : XOk g cc own Ts R0 N0) {a b : Int} (d : decode cc pc = .ok (.iadd, 1)) (kk : WW g k n ws (pc + 1) L (.int (jz (a + b)) :: st)) : WW g k n ws pc L (.int (jz b) :: .int (jz a) :: st) := fun H locs ls hP hD hS hl => lv_iadd C.1 C.2.1 d (jz_add a b ▸ kk H locs ls hP hD hS hl)
theorem r_isub (C : XOk g cc own Ts R0 N0) {a b : Int} (d : decode cc pc = .ok (.isub, 1)) (kk : WW g k n ws (pc + 1) L (.int (jz (a - b)) :: st)) : WW g k n ws pc L (.int (jz b) :: .int (jz a) :: st) := fun H locs ls hP hD hS hl => lv_isub C.1 C.2.1 d (jz_sub a b ▸ kk H locs ls hP hD hS hl)
theorem r_imul (C : XOk g cc own Ts R0 N0) {a b : Int} (d : decode cc pc = .ok (.imul, 1)) (kk : WW g k n ws (pc + 1) L (.int (jz (a * b)) :: st)) : WW g k n ws pc L (.int (jz b) :: .int (jz a) :: st) := fun H locs ls hP hD hS hl => lv_imul C.1 C.2.1 d (jz_mul a b ▸ kk H locs ls hP hD hS hl)
theorem r_ineg (C : XOk g cc own Ts R0 N0) {a : Int} (d : decode cc pc = .ok (.ineg, 1)) (kk : WW g k n ws (pc + 1) L (.int (jz (-a)) :: st)) : WW g k n ws pc L (.int (jz a) :: st) := fun H locs ls hP hD hS hl => lv_ineg C.1 C.2.1 d (by have := kk H locs ls hP hD hS hl; rw [jz_neg] at this; simpa using this)
theorem r_iand (C : XOk g cc own Ts R0 N0) {a b : Int} (d : decode cc pc = .ok (.iand, 1)) (kk : WW g k n ws (pc + 1) L (.int (jz (andI a b)) :: st)) : WW g k n ws pc L (.int (jz b) :: .int (jz a) :: st) := fun H locs ls hP hD hS hl => lv_iand C.1 C.2.1 d ((jz_to (jz a &&& jz b)) ▸ kk H locs ls hP hD hS hl)
theorem r_ior (C : XOk g cc own Ts R0 N0) {a b : Int} (d : decode cc pc = .ok (.ior, 1)) (kk : WW g k n ws (pc + 1) L (.int (jz (orI a b)) :: st)) : WW g k n ws pc L (.int (jz b) :: .int (jz a) :: st) := fun H locs ls hP hD hS hl => lv_ior C.1 C.2.1 d ((jz_to (jz a ||| jz b)) ▸ kk H locs ls hP hD hS hl)
theorem r_ishl (C : XOk g cc own Ts R0 N0) {a b : Int} (d : decode cc pc = .ok (.ishl, 1)) (kk : WW g k n ws (pc + 1) L (.int (jz (shlI a b)) :: st)) : WW g k n ws pc L (.int (jz b) :: .int (jz a) :: st) := fun H locs ls hP hD hS hl => lv_ishl C.1 C.2.1 d ((jz_to (jz a <<< (jz b &&& 31))) ▸ kk H locs ls hP hD hS hl)
theorem r_ishr (C : XOk g cc own Ts R0 N0) {a b : Int} (d : decode cc pc = .ok (.ishr, 1)) (kk : WW g k n ws (pc + 1) L (.int (jz (shrI a b)) :: st)) : WW g k n ws pc L (.int (jz b) :: .int (jz a) :: st) := fun H locs ls hP hD hS hl => lv_ishr C.1 C.2.1 d ((jz_to (jz a >>> (jz b &&& 31))) ▸ kk H locs ls hP hD hS hl)
theorem r_iushr (C : XOk g cc own Ts R0 N0) {a b : Int} (d : decode cc pc = .ok (.iushr, 1)) (kk : WW g k n ws (pc + 1) L (.int (jz (ushI a b)) :: st)) : WW g k n ws pc L (.int (jz b) :: .int (jz a) :: st) := fun H locs ls hP hD hS hl => lv_iushr C.1 C.2.1 d (jz_to _).symm (kk H locs ls hP hD hS hl)
theorem r_i2b (C : XOk g cc own Ts R0 N0) {a : Int} (d : decode cc pc = .ok (.i2b, 1)) (kk : WW g k n ws (pc + 1) L (.int (jz (byI a)) :: st)) : WW g k n ws pc L (.int (jz a) :: st) := fun H locs ls hP hD hS hl => lv_i2b C.1 C.2.1 d (jz_to _).symm (kk H locs ls hP hD hS hl)
theorem r_i2s (C : XOk g cc own Ts R0 N0) {a : Int} (d : decode cc pc = .ok (.i2s, 1)) (kk : WW g k n ws (pc + 1) L (.int (jz (shI a)) :: st)) : WW g k n ws pc L (.int (jz a) :: st) := fun H locs ls hP hD hS hl => lv_i2s C.1 C.2.1 d (jz_to _).symm (kk H locs ls hP hD hS hl)
theorem r_i2l (C : XOk g cc own Ts R0 N0) {a : Int} (d : decode cc pc = .ok (.i2l, 1)) (kk : WW g k n ws (pc + 1) L (.long (i2lI a) :: st)) : WW g k n ws pc L (.int (jz a) :: st) := fun H locs ls hP hD hS hl => lv_i2l C.1 C.2.1 d rfl (kk H locs ls hP hD hS hl)
theorem r_l2i (C : XOk g cc own Ts R0 N0) {a : Int64} (d : decode cc pc = .ok (.l2i, 1)) (kk : WW g k n ws (pc + 1) L (.int (jz (l2iI a)) :: st)) : WW g k n ws pc L (.long a :: st) := fun H locs ls hP hD hS hl => lv_l2i C.1 C.2.1 d (jz_to _).symm (kk H locs ls hP hD hS hl)
theorem r_ladd (C : XOk g cc own Ts R0 N0) {a b : Int64} (d : decode cc pc = .ok (.ladd, 1)) (kk : WW g k n ws (pc + 1) L (.long (a + b) :: st)) : WW g k n ws pc L (.long b :: .long a :: st) := fun H locs ls hP hD hS hl => lv_ladd C.1 C.2.1 d (kk H locs ls hP hD hS hl)
theorem r_land (C : XOk g cc own Ts R0 N0) {a b : Int64} (d : decode cc pc = .ok (.land, 1)) (kk : WW g k n ws (pc + 1) L (.long (a &&& b) :: st)) : WW g k n ws pc L (.long b :: .long a :: st) := fun H locs ls hP hD hS hl => lv_land C.1 C.2.1 d (kk H locs ls hP hD hS hl)
theorem r_lor (C : XOk g cc own Ts R0 N0) {a b : Int64} (d : decode cc pc = .ok (.lor, 1)) (kk : WW g k n ws (pc + 1) L (.long (a ||| b) :: st)) : WW g k n ws pc L (.long b :: .long a :: st) := fun H locs ls hP hD hS hl => lv_lor C.1 C.2.1 d (kk H locs ls hP hD hS hl)
theorem r_lshl (C : XOk g cc own Ts R0 N0) {a : Int64} {b : Int} (d : decode cc pc = .ok (.lshl, 1)) (kk : WW g k n ws (pc + 1) L (.long (lshlI a b) :: st)) : WW g k n ws pc L (.int (jz b) :: .long a :: st) := fun H locs ls hP hD hS hl => lv_lshl C.1 C.2.1 d rfl (kk H locs ls hP hD hS hl)
theorem r_lshr (C : XOk g cc own Ts R0 N0) {a : Int64} {b : Int} (d : decode cc pc = .ok (.lshr, 1)) (kk : WW g k n ws (pc + 1) L (.long (lshrI a b) :: st)) : WW g k n ws pc L (.int (jz b) :: .long a :: st) := fun H locs ls hP hD hS hl => lv_lshr C.1 C.2.1 d rfl (kk H locs ls hP hD hS hl)
theorem r_lcmp (C : XOk g cc own Ts R0 N0) {a b : Int64} (d : decode cc pc = .ok (.lcmp, 1)) (kk : WW g k n ws (pc + 1) L (.int (jz (lcmI a b)) :: st)) : WW g k n ws pc L (.long b :: .long a :: st) := fun H locs ls hP hD hS hl => W.lcmp C.1 C.2.1 d ((jz_to (lg_cmp a b)) ▸ kk H locs ls hP hD hS hl)
theorem r_dup (C : XOk g cc own Ts R0 N0) {v : Value} (d : decode cc pc = .ok (.dup, 1)) (hv : v.category = 1) (kk : WW g k n ws (pc + 1) L (v :: v :: st)) : WW g k n ws pc L (v :: st) := fun H locs ls hP hD hS hl => lv_dup C.1 C.2.1 d hv (kk H locs ls hP hD hS hl)
theorem r_pop (C : XOk g cc own Ts R0 N0) {v : Value} (d : decode cc pc = .ok (.pop, 1)) (hv : v.category = 1) (kk : WW g k n ws (pc + 1) L st) : WW g k n ws pc L (v :: st) := fun H locs ls hP hD hS hl => lv_pop C.1 C.2.1 d hv (kk H locs ls hP hD hS hl)
theorem r_dup2 (C : XOk g cc own Ts R0 N0) {v w : Value} (d : decode cc pc = .ok (.dup2, 1)) (hv : v.category = 1) (hw : w.category = 1) (kk : WW g k n ws (pc + 1) L (v :: w :: v :: w :: st)) : WW g k n ws pc L (v :: w :: st) := fun H locs ls hP hD hS hl => lv_dup2_11 C.1 C.2.1 d hv hw (kk H locs ls hP hD hS hl)
theorem r_goto (C : XOk g cc own Ts R0 N0) {off : Int} (tgt : Nat) (d : decode cc pc = .ok (.goto off, 3)) (ht : (pc : Int) + off = (tgt : Int)) (kk : WW g k n ws tgt L st) : WW g k n ws pc L st := fun H locs ls hP hD hS hl => lv_goto C.1 C.2.1 d ht (kk H locs ls hP hD hS hl)
theorem r_icmp_eq (C : XOk g cc own Ts R0 N0) {a b : Int} {off : Int} (tgt : Nat) (d : decode cc pc = .ok (.if_icmp .eq off, 3)) (ht : (pc : Int) + off = (tgt : Int)) (h : wp (if eqI a b = true then t else u) K) (kt : eqI a b = true → wp t K → WW g k n ws tgt L st) (kf : eqI a b = false → wp u K → WW g k n ws (pc + 3) L st) : WW g k n ws pc L (.int (jz b) :: .int (jz a) :: st) := fun H locs ls hP hD hS hl => lv_icmp_eq C.1 C.2.1 d ht (fun q => have q : eqI a b = true := decide_eq_true q; kt q (wp_t h q) H locs ls hP hD hS hl) (fun q => have q : eqI a b = false := decide_eq_false q; kf q (wp_f h q) H locs ls hP hD hS hl)
theorem r_icmp_ne (C : XOk g cc own Ts R0 N0) {a b : Int} {off : Int} (tgt : Nat) (d : decode cc pc = .ok (.if_icmp .ne off, 3)) (ht : (pc : Int) + off = (tgt : Int)) (h : wp (if eqI a b = true then t else u) K) (kt : eqI a b = false → wp u K → WW g k n ws tgt L st) (kf : eqI a b = true → wp t K → WW g k n ws (pc + 3) L st) : WW g k n ws pc L (.int (jz b) :: .int (jz a) :: st) := fun H locs ls hP hD hS hl => lv_icmp_ne C.1 C.2.1 d ht (fun q => have q : eqI a b = false := decide_eq_false q; kt q (wp_f h q) H locs ls hP hD hS hl) (fun q => have q : eqI a b = true := decide_eq_true q; kf q (wp_t h q) H locs ls hP hD hS hl)
theorem r_icmp_lt (C : XOk g cc own Ts R0 N0) {a b : Int} {off : Int} (tgt : Nat) (d : decode cc pc = .ok (.if_icmp .lt off, 3)) (ht : (pc : Int) + off = (tgt : Int)) (h : wp (if ltI a b = true then t else u) K) (kt : ltI a b = true → wp t K → WW g k n ws tgt L st) (kf : ltI a b = false → wp u K → WW g k n ws (pc + 3) L st) : WW g k n ws pc L (.int (jz b) :: .int (jz a) :: st) := fun H locs ls hP hD hS hl => lv_icmp_lt C.1 C.2.1 d ht (fun q => have q : ltI a b = true := decide_eq_true q; kt q (wp_t h q) H locs ls hP hD hS hl) (fun q => have q : ltI a b = false := decide_eq_false q; kf q (wp_f h q) H locs ls hP hD hS hl)
theorem r_icmp_ge (C : XOk g cc own Ts R0 N0) {a b : Int} {off : Int} (tgt : Nat) (d : decode cc pc = .ok (.if_icmp .ge off, 3)) (ht : (pc : Int) + off = (tgt : Int)) (h : wp (if ltI a b = true then t else u) K) (kt : ltI a b = false → wp u K → WW g k n ws tgt L st) (kf : ltI a b = true → wp t K → WW g k n ws (pc + 3) L st) : WW g k n ws pc L (.int (jz b) :: .int (jz a) :: st) := fun H locs ls hP hD hS hl => lv_icmp_ge C.1 C.2.1 d ht (fun q => have q : ltI a b = false := decide_eq_false (Int32.not_lt.mpr q); kt q (wp_f h q) H locs ls hP hD hS hl) (fun q => have q : ltI a b = true := decide_eq_true (Int32.not_le.mp q); kf q (wp_t h q) H locs ls hP hD hS hl)
theorem r_icmp_gt (C : XOk g cc own Ts R0 N0) {a b : Int} {off : Int} (tgt : Nat) (d : decode cc pc = .ok (.if_icmp .gt off, 3)) (ht : (pc : Int) + off = (tgt : Int)) (h : wp (if ltI b a = true then t else u) K) (kt : ltI b a = true → wp t K → WW g k n ws tgt L st) (kf : ltI b a = false → wp u K → WW g k n ws (pc + 3) L st) : WW g k n ws pc L (.int (jz b) :: .int (jz a) :: st) := fun H locs ls hP hD hS hl => lv_icmp_gt C.1 C.2.1 d ht (fun q => have q : ltI b a = true := decide_eq_true q; kt q (wp_t h q) H locs ls hP hD hS hl) (fun q => have q : ltI b a = false := decide_eq_false q; kf q (wp_f h q) H locs ls hP hD hS hl)
theorem r_icmp_le (C : XOk g cc own Ts R0 N0) {a b : Int} {off : Int} (tgt : Nat) (d : decode cc pc = .ok (.if_icmp .le off, 3)) (ht : (pc : Int) + off = (tgt : Int)) (h : wp (if ltI b a = true then t else u) K) (kt : ltI b a = false → wp u K → WW g k n ws tgt L st) (kf : ltI b a = true → wp t K → WW g k n ws (pc + 3) L st) : WW g k n ws pc L (.int (jz b) :: .int (jz a) :: st) := fun H locs ls hP hD hS hl => lv_icmp_le C.1 C.2.1 d ht (fun q => have q : ltI b a = false := decide_eq_false (Int32.not_lt.mpr q); kt q (wp_f h q) H locs ls hP hD hS hl) (fun q => have q : ltI b a = true := decide_eq_true (Int32.not_le.mp q); kf q (wp_t h q) H locs ls hP hD hS hl)
theorem r_if_eq (C : XOk g cc own Ts R0 N0) {a : Int} {off : Int} (tgt : Nat) (d : decode cc pc = .ok (.ifCond .eq off, 3)) (ht : (pc : Int) + off = (tgt : Int)) (h : wp (if eqI a 0 = true then t else u) K) (kt : eqI a 0 = true → wp t K → WW g k n ws tgt L st) (kf : eqI a 0 = false → wp u K → WW g k n ws (pc + 3) L st) : WW g k n ws pc L (.int (jz a) :: st) := fun H locs ls hP hD hS hl => lv_if_eq C.1 C.2.1 d ht (fun q => have q : eqI a 0 = true := decide_eq_true q; kt q (wp_t h q) H locs ls hP hD hS hl) (fun q => have q : eqI a 0 = false := decide_eq_false q; kf q (wp_f h q) H locs ls hP hD hS hl)
theorem r_if_ne (C : XOk g cc own Ts R0 N0) {a : Int} {off : Int} (tgt : Nat) (d : decode cc pc = .ok (.ifCond .ne off, 3)) (ht : (pc : Int) + off = (tgt : Int)) (h : wp (if eqI a 0 = true then t else u) K) (kt : eqI a 0 = false → wp u K → WW g k n ws tgt L st) (kf : eqI a 0 = true → wp t K → WW g k n ws (pc + 3) L st) : WW g k n ws pc L (.int (jz a) :: st) := fun H locs ls hP hD hS hl => lv_if_ne C.1 C.2.1 d ht (fun q => have q : eqI a 0 = false := decide_eq_false q; kt q (wp_f h q) H locs ls hP hD hS hl) (fun q => have q : eqI a 0 = true := decide_eq_true q; kf q (wp_t h q) H locs ls hP hD hS hl)
theorem r_if_lt (C : XOk g cc own Ts R0 N0) {a : Int} {off : Int} (tgt : Nat) (d : decode cc pc = .ok (.ifCond .lt off, 3)) (ht : (pc : Int) + off = (tgt : Int)) (h : wp (if ltI a 0 = true then t else u) K) (kt : ltI a 0 = true → wp t K → WW g k n ws tgt L st) (kf : ltI a 0 = false → wp u K → WW g k n ws (pc + 3) L st) : WW g k n ws pc L (.int (jz a) :: st) := fun H locs ls hP hD hS hl => lv_if_lt C.1 C.2.1 d ht (fun q => have q : ltI a 0 = true := decide_eq_true q; kt q (wp_t h q) H locs ls hP hD hS hl) (fun q => have q : ltI a 0 = false := decide_eq_false q; kf q (wp_f h q) H locs ls hP hD hS hl)
theorem r_if_ge (C : XOk g cc own Ts R0 N0) {a : Int} {off : Int} (tgt : Nat) (d : decode cc pc = .ok (.ifCond .ge off, 3)) (ht : (pc : Int) + off = (tgt : Int)) (h : wp (if ltI a 0 = true then t else u) K) (kt : ltI a 0 = false → wp u K → WW g k n ws tgt L st) (kf : ltI a 0 = true → wp t K → WW g k n ws (pc + 3) L st) : WW g k n ws pc L (.int (jz a) :: st) := fun H locs ls hP hD hS hl => lv_if_ge C.1 C.2.1 d ht (fun q => have q : ltI a 0 = false := decide_eq_false (Int32.not_lt.mpr q); kt q (wp_f h q) H locs ls hP hD hS hl) (fun q => have q : ltI a 0 = true := decide_eq_true (Int32.not_le.mp q); kf q (wp_t h q) H locs ls hP hD hS hl)
theorem r_if_gt (C : XOk g cc own Ts R0 N0) {a : Int} {off : Int} (tgt : Nat) (d : decode cc pc = .ok (.ifCond .gt off, 3)) (ht : (pc : Int) + off = (tgt : Int)) (h : wp (if ltI 0 a = true then t else u) K) (kt : ltI 0 a = true → wp t K → WW g k n ws tgt L st) (kf : ltI 0 a = false → wp u K → WW g k n ws (pc + 3) L st) : WW g k n ws pc L (.int (jz a) :: st) := fun H locs ls hP hD hS hl => lv_if_gt C.1 C.2.1 d ht (fun q => have q : ltI 0 a = true := decide_eq_true q; kt q (wp_t h q) H locs ls hP hD hS hl) (fun q => have q : ltI 0 a = false := decide_eq_false q; kf q (wp_f h q) H locs ls hP hD hS hl)
theorem r_if_le (C : XOk g cc own Ts R0 N0) {a : Int} {off : Int} (tgt : Nat) (d : decode cc pc = .ok (.ifCond .le off, 3)) (ht : (pc : Int) + off = (tgt : Int)) (h : wp (if ltI 0 a = true then t else u) K) (kt : ltI 0 a = false → wp u K → WW g k n ws tgt L st) (kf : ltI 0 a = true → wp t K → WW g k n ws (pc + 3) L st) : WW g k n ws pc L (.int (jz a) :: st) := fun H locs ls hP hD hS hl => lv_if_le C.1 C.2.1 d ht (fun q => have q : ltI 0 a = false := decide_eq_false (Int32.not_lt.mpr q); kt q (wp_f h q) H locs ls hP hD hS hl) (fun q => have q : ltI 0 a = true := decide_eq_true (Int32.not_le.mp q); kf q (wp_t h q) H locs ls hP hD hS hl)
theorem r_idiv (C : XOk g cc own Ts R0 N0) {a b : Int} (d : decode cc pc = .ok (.idiv, 1)) (h : wp (grd (!(eqI b 0)) t) K) (kk : wp t K → WW g k n ws (pc + 1) L (.int (jz (divI a b)) :: st)) : WW g k n ws pc L (.int (jz b) :: .int (jz a) :: st) := fun H locs ls hP hD hS hl => lv_idiv C.1 C.2.1 d (fun q => by have := (wp_g h).1; rw [show eqI b 0 = true from decide_eq_true q] at this; exact absurd this (by decide)) ((jz_to (jz a / jz b)) ▸ kk (wp_g h).2 H locs ls hP hD hS hl)
theorem r_irem (C : XOk g cc own Ts R0 N0) {a b : Int} (d : decode cc pc = .ok (.irem, 1)) (h : wp (grd (!(eqI b 0)) t) K) (kk : wp t K → WW g k n ws (pc + 1) L (.int (jz (remI a b)) :: st)) : WW g k n ws pc L (.int (jz b) :: .int (jz a) :: st) := fun H locs ls hP hD hS hl => lv_irem C.1 C.2.1 d (fun q => by have := (wp_g h).1; rw [show eqI b 0 = true from decide_eq_true q] at this; exact absurd this (by decide)) ((jz_to (jz a - jz a / jz b * jz b)) ▸ kk (wp_g h).2 H locs ls hP hD hS hl)
theorem r_tableIn (C : XOk g cc own Ts R0 N0) {a : Int} {dflt lo hi : Int} {offs : Array Int} {len : Nat} (tgt : Nat) (d : decode cc pc = .ok (.tableswitch dflt lo hi offs, len)) (z off : Int) (hz : eqI a z = true) (h1 : ¬ (jz z).toInt < lo) (h2 : ¬ hi < (jz z).toInt) (ho : offs[((jz z).toInt - lo).toNat]? = some off) (ht : (pc : Int) + off = (tgt : Int)) (kk : WW g k n ws tgt L st) : WW g k n ws pc L (.int (jz a) :: st) := fun H locs ls hP hD hS hl => by
  have e : jz a = jz z := of_decide_eq_true hz
  rw [e]
  exact lv_tableIn C.1 C.2.1 d h1 h2 ho ht (kk H locs ls hP hD hS hl)
theorem r_tableOut (C : XOk g cc own Ts R0 N0) {a : Int} {dflt lo hi : Int} {offs : Array Int} {len : Nat} (tgt : Nat) (d : decode cc pc = .ok (.tableswitch dflt lo hi offs, len)) (h : (jz a).toInt < lo ∨ hi < (jz a).toInt) (ht : (pc : Int) + dflt = (tgt : Int)) (kk : WW g k n ws tgt L st) : WW g k n ws pc L (.int (jz a) :: st) := fun H locs ls hP hD hS hl => lv_tableOut C.1 C.2.1 d h ht (kk H locs ls hP hD hS hl)
/-- a number that is none of lo .. lo + m - 1 is out of the table -/
theorem sw_out {a lo : Int} (m : Nat) (hlo : -1000 ≤ lo) (hm : lo + m ≤ 1000) (h : ∀ i : Nat, i < m → eqI a (lo + i) = false) : (jz a).toInt < lo ∨ lo + m - 1 < (jz a).toInt := by
  rcases Int.lt_or_le (jz a).toInt lo with q | q
  · exact Or.inl q
  · refine Or.inr ?_
    rcases Int.lt_or_le (lo + m - 1) (jz a).toInt with q2 | q2
    · exact q2
    · have h3 := h ((jz a).toInt - lo).toNat (by omega)
      have e : lo + (((jz a).toInt - lo).toNat : Int) = (jz a).toInt := by omega
      rw [e] at h3
      exact absurd (jz_to (jz a)).symm (of_decide_eq_false h3)
theorem r_lookup (C : XOk g cc own Ts R0 N0) {a : Int} {dflt : Int} {ps : Array (Int × Int)} {len : Nat} (tgt : Nat) (d : decode cc pc = .ok (.lookupswitch dflt ps, len)) (hp : (ps.toList.zip (ps.toList.drop 1)).all (fun (a, next) => a.1 < next.1) = true) {off : Int} (ho : Op.lookupswitch.offset ps.toList dflt (jz a).toInt = off) (ht : (pc : Int) + off = (tgt : Int)) (kk : WW g k n ws tgt L st) : WW g k n ws pc L (.int (jz a) :: st) := fun H locs ls hP hD hS hl => lv_lookup C.1 C.2.1 d hp ho ht (kk H locs ls hP hD hS hl)
theorem lk_ne {a z a' o dd : Int} {r : List (Int × Int)} (h : eqI a z = false) (hz : (jz z).toInt = a') : Op.lookupswitch.offset ((a', o) :: r) dd (jz a).toInt = Op.lookupswitch.offset r dd (jz a).toInt := lv_osw (of_decide_eq_false h) hz
theorem lk_eq {a z : Int} (h : eqI a z = true) (ps : List (Int × Int)) (dd : Int) {off : Int} (ho : Op.lookupswitch.offset ps dd (jz z).toInt = off) : Op.lookupswitch.offset ps dd (jz a).toInt = off := by rw [show jz a = jz z from of_decide_eq_true h]; exact ho
def GF (Ts : List Cond) (own : String) (index ci f : Nat) : Prop := ∃ (Cn : String) (T : u_T) (N : Nat), vwCl[ci]? = some (Cn, T, N) ∧ (∀ w ∈ u_ws Cn T N, w ∈ Ts) ∧ f < N ∧ Cond.fieldLink own index (T f).1 (T f).2.1 (T f).2.2.1 ∈ Ts
def PF (Ts : List Cond) (own : String) (index ci f : Nat) (ty : FieldType) (fin : Bool) : Prop := ∃ (Cn : String) (T : u_T) (N : Nat) (tys : Nat → FieldType), vwCl[ci]? = some (Cn, T, N) ∧ (∀ w ∈ u_ws Cn T N, w ∈ Ts) ∧ (∀ k, k < N → parseFieldDescriptor (T k).2.2.1 = some (tys k)) ∧ (∀ a, a < N → ∀ b, b < N → a ≠ b → (T a).2.1 ≠ (T b).2.1) ∧ f < N ∧ Cond.fieldLink own index (T f).1 (T f).2.1 (T f).2.2.1 ∈ Ts ∧ (T f).2.2.2 = fin ∧ tys f = ty ∧ (T f).1 = Cn
theorem r_get (C : XOk g cc own Ts R0 N0) {index : Nat} (d : decode cc pc = .ok (.getfield index, 3)) {ci f : Nat} (G : GF Ts own index ci f) (q0 : Nat) {a : Nat} {fs : List Value} (he : ws[q0]? = some (a, .inr (ci, fs))) {v : Value} (hv : fs[f]? = some v) (kk : WW g k n ws (pc + 3) L (v :: st)) : WW g k n ws pc L (.ref a :: st) := fun H locs ls hP hD hS hl => by
  obtain ⟨Cn, T, N, h1, h2, h3, h4⟩ := G
  exact va_get C.1 C.2.1 C.2.2.2.2.1 h2 C.2.2.2.1 C.2.2.2.2.2.1 hP q0 he h1 f h3 (C.2.2.2.2.1 _ h4) (fun _ h => h) hv d (kk H locs ls hP hD hS hl)
theorem r_putg (C : XOk g cc own Ts R0 N0) {index : Nat} (d : decode cc pc = .ok (.putfield index, 3)) {ci f : Nat} {ty : FieldType} (G : PF Ts own index ci f ty false) {v : Value} (hn : narrow ty v = v) (hfit : fits ty v = true) (q0 : Nat) {a : Nat} {fs : List Value} (he : ws[q0]? = some (a, .inr (ci, fs))) (hf : f < fs.length) {ws' : va_W} (hw : ws.set q0 (a, .inr (ci, fs.set f v)) = ws') (kk : WW g k n ws' (pc + 3) L st) : WW g k n ws pc L (v :: .ref a :: st) := fun H locs ls hP hD hS hl => by
  obtain ⟨Cn, T, N, tys, h1, h2, h3, h4, h5, h6, h7, h8, h9⟩ := G
  subst hw
  exact va_put C.1 C.2.1 C.2.2.2.2.1 h2 tys h3 h4 C.2.2.2.1 C.2.2.2.2.2.1 hP hD hS q0 he h1 f h5 (C.2.2.2.2.1 _ h6) (fun _ h => h) h7 (ty := ty) (by rw [h3 f h5, h8]) hn hfit hf d (fun H1 locs1 hP hD hS => kk H1 locs1 ls hP hD hS hl)
theorem r_puti (C : XOk g cc own Ts R0 N0) {index : Nat} (d : decode cc pc = .ok (.putfield index, 3)) {ci f : Nat} (G : PF Ts own index ci f .int false) {z : Int} (q0 : Nat) {a : Nat} {fs : List Value} (he : ws[q0]? = some (a, .inr (ci, fs))) (hf : f < fs.length) {ws' : va_W} (hw : ws.set q0 (a, .inr (ci, fs.set f (.int (jz z)))) = ws') (kk : WW g k n ws' (pc + 3) L st) : WW g k n ws pc L (.int (jz z) :: .ref a :: st) := r_putg C d G rfl rfl q0 he hf hw kk
theorem nB {z : Int} (h : isB z = true) : narrow .boolean (.int (jz z)) = .int (jz z) ∧ fits .boolean (.int (jz z)) = true := by
  rcases isB_or h with e | e
  · rw [e]; exact ⟨rfl, rfl⟩
  · rw [e]; exact ⟨rfl, rfl⟩
theorem r_putz (C : XOk g cc own Ts R0 N0) {index : Nat} (d : decode cc pc = .ok (.putfield index, 3)) {ci f : Nat} (G : PF Ts own index ci f .boolean false) {z : Int} (h : wp (grd (isB z) t) K) (q0 : Nat) {a : Nat} {fs : List Value} (he : ws[q0]? = some (a, .inr (ci, fs))) (hf : f < fs.length) {ws' : va_W} (hw : ws.set q0 (a, .inr (ci, fs.set f (.int (jz z)))) = ws') (kk : wp t K → WW g k n ws' (pc + 3) L st) : WW g k n ws pc L (.int (jz z) :: .ref a :: st) := r_putg C d G (nB (wp_g h).1).1 (nB (wp_g h).1).2 q0 he hf hw (kk (wp_g h).2)
theorem r_putF (C : XOk g cc own Ts R0 N0) {index : Nat} (d : decode cc pc = .ok (.putfield index, 3)) {ci f : Nat} {ty : FieldType} (G : PF Ts own index ci f ty true) (hi : (xM g).name = "<init>") (hown : vwCl[ci]?.map (fun q => q.1) = some own) {v : Value} (hn : narrow ty v = v) (hfit : fits ty v = true) (q0 : Nat) {a : Nat} {fs : List Value} (he : ws[q0]? = some (a, .inr (ci, fs))) (hf : f < fs.length) {ws' : va_W} (hw : ws.set q0 (a, .inr (ci, fs.set f v)) = ws') (kk : WW g k n ws' (pc + 3) L st) : WW g k n ws pc L (v :: .ref a :: st) := fun H locs ls hP hD hS hl => by
  obtain ⟨Cn, T, N, tys, h1, h2, h3, h4, h5, h6, h7, h8, h9⟩ := G
  subst hw
  have ho : Cn = own := by rw [h1] at hown; exact Option.some.inj hown
  exact va_putF C.1 C.2.1 C.2.2.2.2.1 h2 tys h3 h4 C.2.2.2.1 C.2.2.2.2.2.1 hP hD hS q0 he h1 f h5 (C.2.2.2.2.1 _ h6) (fun _ h => h) h7 hi (h9.trans ho) (ty := ty) (by rw [h3 f h5, h8]) hn hfit hf d (fun H1 locs1 hP hD hS => kk H1 locs1 ls hP hD hS hl)
theorem r_iald (C : XOk g cc own Ts R0 N0) {a : Nat} {i : Int} {N : Nat} {f : Nat → Int} (d : decode cc pc = .ok (.iaload, 1)) (h : wp (grd (iin i N) t) K) (q0 : Nat) (ha : ws[q0]? = some (a, aI (xG g) N f)) (kk : wp t K → WW g k n ws (pc + 1) L (.int (jz (f (ix i))) :: st)) : WW g k n ws pc L (.int (jz i) :: .ref a :: st) := fun H locs ls hP hD hS hl => va_iald C.1 C.2.1 C.2.2.2.2.2.1 hP q0 0 ha rfl (iin_in (wp_g h).1) d (kk (wp_g h).2 H locs ls hP hD hS hl)
theorem r_bald (C : XOk g cc own Ts R0 N0) {a : Nat} {i : Int} {N : Nat} {f : Nat → Int} (d : decode cc pc = .ok (.baload, 1)) (h : wp (grd (iin i N) t) K) (q0 : Nat) (ha : ws[q0]? = some (a, aB (xG g) N f)) (kk : wp t K → WW g k n ws (pc + 1) L (.int (jz (f (ix i))) :: st)) : WW g k n ws pc L (.int (jz i) :: .ref a :: st) := fun H locs ls hP hD hS hl => va_bald C.1 C.2.1 C.2.2.2.2.2.1 hP q0 2 ha rfl (iin_in (wp_g h).1) d (kk (wp_g h).2 H locs ls hP hD hS hl)
theorem r_lald (C : XOk g cc own Ts R0 N0) {a : Nat} {i : Int} {N : Nat} {f : Nat → Int64} (d : decode cc pc = .ok (.laload, 1)) (h : wp (grd (iin i N) t) K) (q0 : Nat) (ha : ws[q0]? = some (a, aJ (xG g) N f)) (kk : wp t K → WW g k n ws (pc + 1) L (.long (f (ix i)) :: st)) : WW g k n ws pc L (.int (jz i) :: .ref a :: st) := fun H locs ls hP hD hS hl => va_lald C.1 C.2.1 C.2.2.2.2.2.1 hP q0 1 ha rfl (iin_in (wp_g h).1) d (kk (wp_g h).2 H locs ls hP hD hS hl)
theorem r_aald (C : XOk g cc own Ts R0 N0) {a : Nat} {i : Int} {N : Nat} {f : Nat → Nat} (d : decode cc pc = .ok (.aaload, 1)) (h : wp (grd (iin i N) t) K) (q0 : Nat) (ha : ws[q0]? = some (a, aL (xG g) N f)) (kk : iin i N = true → wp t K → WW g k n ws (pc + 1) L (.ref (f (ix i)) :: st)) : WW g k n ws pc L (.int (jz i) :: .ref a :: st) := fun H locs ls hP hD hS hl => by
  have hin := iin_in (wp_g h).1
  have hlt : (jz i).toNatClampNeg < N := Nat.not_le.mp fun q => hin (Or.inr q)
  exact W.aald (v := .ref (f (ix i))) (ty := .array .long) C.1 C.2.1 (hP q0 _ ha) ((C.2.2.2.2.2.1.2 3 _ rfl).1 N (fun j => va_rf (some (f j)))) rfl (fun q => by cases q) (by show ¬ (jz i < 0 ∨ (arrV _ _ _).slots.size ≤ _); rw [arrV_size]; exact hin) (by show (arrV _ _ _).slots[_]? = _; rw [arrV_read _ _ hlt]; rfl) rfl rfl d (kk (wp_g h).1 (wp_g h).2 H locs ls hP hD hS hl)
theorem r_iast (C : XOk g cc own Ts R0 N0) {a : Nat} {i z : Int} {N : Nat} {f : Nat → Int} (d : decode cc pc = .ok (.iastore, 1)) (h : wp (grd (iin i N) t) K) (q0 : Nat) (ha : ws[q0]? = some (a, aI (xG g) N f)) {ws' : va_W} (hw : ws.set q0 (a, aI (xG g) N (up f (ix i) z)) = ws') (kk : wp t K → WW g k n ws' (pc + 1) L st) : WW g k n ws pc L (.int (jz z) :: .int (jz i) :: .ref a :: st) := fun H locs ls hP hD hS hl => by
  subst hw
  refine va_iast C.1 C.2.1 C.2.2.2.2.2.1 hP hD hS q0 0 ha rfl (iin_in (wp_g h).1) d (fun H1 locs1 hP hD hS => ?_)
  rw [jA_up] at hP hD
  exact kk (wp_g h).2 H1 locs1 ls hP hD hS hl
theorem r_bast (C : XOk g cc own Ts R0 N0) {a : Nat} {i z : Int} {N : Nat} {f : Nat → Int} (d : decode cc pc = .ok (.bastore, 1)) (h : wp (grd (iin i N) t) K) (q0 : Nat) (ha : ws[q0]? = some (a, aB (xG g) N f)) {ws' : va_W} (hw : ws.set q0 (a, aB (xG g) N (up f (ix i) (byI z))) = ws') (kk : wp t K → WW g k n ws' (pc + 1) L st) : WW g k n ws pc L (.int (jz z) :: .int (jz i) :: .ref a :: st) := fun H locs ls hP hD hS hl => by
  subst hw
  refine va_bast C.1 C.2.1 C.2.2.2.2.2.1 hP hD hS q0 2 ha rfl (iin_in (wp_g h).1) d (fun H1 locs1 hP hD hS => ?_)
  rw [vp_nar_byte, ← jz_to ((jz z).toInt8.toInt32), jA_up] at hP hD
  exact kk (wp_g h).2 H1 locs1 ls hP hD hS hl
theorem r_last (C : XOk g cc own Ts R0 N0) {a : Nat} {i : Int} {z : Int64} {N : Nat} {f : Nat → Int64} (d : decode cc pc = .ok (.lastore, 1)) (h : wp (grd (iin i N) t) K) (q0 : Nat) (ha : ws[q0]? = some (a, aJ (xG g) N f)) {ws' : va_W} (hw : ws.set q0 (a, aJ (xG g) N (up f (ix i) z)) = ws') (kk : wp t K → WW g k n ws' (pc + 1) L st) : WW g k n ws pc L (.long z :: .int (jz i) :: .ref a :: st) := fun H locs ls hP hD hS hl => by
  subst hw
  refine va_last C.1 C.2.1 C.2.2.2.2.2.1 hP hD hS q0 1 ha rfl (iin_in (wp_g h).1) d (fun H1 locs1 hP hD hS => ?_)
  exact kk (wp_g h).2 H1 locs1 ls hP hD hS hl
theorem r_alen (C : XOk g cc own Ts R0 N0) {a : Nat} {N : Nat} {f : Nat → Int} (z : Int) (hz : Int32.ofNat N = jz z) (d : decode cc pc = .ok (.arraylength, 1)) (q0 : Nat) (ha : ws[q0]? = some (a, aI (xG g) N f)) (kk : WW g k n ws (pc + 1) L (.int (jz z) :: st)) : WW g k n ws pc L (.ref a :: st) := fun H locs ls hP hD hS hl => va_alen C.1 C.2.1 C.2.2.2.2.2.1 hP q0 0 ha (ty := .int) rfl hz d (kk H locs ls hP hD hS hl)
theorem r_mmax (C : XOk g cc own Ts R0 N0) {index : Nat} {a b : Int} (d : decode cc pc = .ok (.invokestatic index, 3)) (w1 : Cond.methodLink own index Lib.Math.max.name ∈ Ts) (w2 : Cond.static Lib.Math.max.name ∈ Ts) (w3 : Cond.initialized "java/lang/Math" ∈ Ts) (w4 : Cond.code Lib.Math.max.name Lib.Math.max.code 2 (some .int) ∈ Ts) (hf : 1 ≤ R0.frames) (hr : (st.map fun v => v.category).sum + 13 ≤ R0.locals) (hc : k ≤ R0.cells ∧ n ≤ R0.slots) (kk : WW g k n ws (pc + 3) L (.int (jz (maxI a b)) :: st)) : WW g k n ws pc L (.int (jz b) :: .int (jz a) :: st) := fun H locs ls hP hD hS hl => by
  obtain ⟨h1, h2, h3, h4, h5, h6, h7, h8, h9⟩ := C
  refine va_mmax h1 h2 (h3.trans hl.1.symm) h4 (h5 _ w1) (h5 _ w2) (h5 _ w3) (h5 _ w4) (by rw [h8]; exact hf) (by rw [h8]; exact hr) (by rw [h8]; exact hc.1) (by rw [h8]; exact hc.2) d ?_
  have e : (if jz a < jz b then jz b else jz a) = jz (maxI a b) := by
    unfold maxI ltI
    by_cases q : jz a < jz b <;> simp [q]
  rw [e]
  exact kk H locs ls hP hD hS hl
theorem r_mmin (C : XOk g cc own Ts R0 N0) {index : Nat} {a b : Int} (d : decode cc pc = .ok (.invokestatic index, 3)) (w1 : Cond.methodLink own index Lib.Math.min.name ∈ Ts) (w2 : Cond.static Lib.Math.min.name ∈ Ts) (w3 : Cond.initialized "java/lang/Math" ∈ Ts) (w4 : Cond.code Lib.Math.min.name Lib.Math.min.code 2 (some .int) ∈ Ts) (hf : 1 ≤ R0.frames) (hr : (st.map fun v => v.category).sum + 13 ≤ R0.locals) (hc : k ≤ R0.cells ∧ n ≤ R0.slots) (kk : WW g k n ws (pc + 3) L (.int (jz (minI a b)) :: st)) : WW g k n ws pc L (.int (jz b) :: .int (jz a) :: st) := fun H locs ls hP hD hS hl => by
  obtain ⟨h1, h2, h3, h4, h5, h6, h7, h8, h9⟩ := C
  refine va_mmin h1 h2 (h3.trans hl.1.symm) h4 (h5 _ w1) (h5 _ w2) (h5 _ w3) (h5 _ w4) (by rw [h8]; exact hf) (by rw [h8]; exact hr) (by rw [h8]; exact hc.1) (by rw [h8]; exact hc.2) d ?_
  have e : (if jz b < jz a then jz b else jz a) = jz (minI a b) := by
    unfold minI ltI
    by_cases q : jz b < jz a <;> simp [q]
  rw [e]
  exact kk H locs ls hP hD hS hl
theorem r_mabs (C : XOk g cc own Ts R0 N0) {index : Nat} {a : Int} (d : decode cc pc = .ok (.invokestatic index, 3)) (w1 : Cond.methodLink own index Lib.Math.abs.name ∈ Ts) (w2 : Cond.static Lib.Math.abs.name ∈ Ts) (w3 : Cond.initialized "java/lang/Math" ∈ Ts) (w4 : Cond.code Lib.Math.abs.name Lib.Math.abs.code 1 (some .int) ∈ Ts) (hf : 1 ≤ R0.frames) (hr : (st.map fun v => v.category).sum + 13 ≤ R0.locals) (hc : k ≤ R0.cells ∧ n ≤ R0.slots) (kk : WW g k n ws (pc + 3) L (.int (jz (absI a)) :: st)) : WW g k n ws pc L (.int (jz a) :: st) := fun H locs ls hP hD hS hl => by
  obtain ⟨h1, h2, h3, h4, h5, h6, h7, h8, h9⟩ := C
  refine va_mabs h1 h2 (h3.trans hl.1.symm) h4 (h5 _ w1) (h5 _ w2) (h5 _ w3) (h5 _ w4) (by rw [h8]; exact hf) (by rw [h8]; exact hr) (by rw [h8]; exact hc.1) (by rw [h8]; exact hc.2) d ?_
  have e : (if 0 ≤ jz a then jz a else 0 - jz a) = jz (absI a) := by
    unfold absI ltI
    have z0 : (0 : Int32) = jz 0 := rfl
    rw [z0]
    rcases Classical.em (jz a < jz 0) with q | q
    · rw [if_neg (Int32.not_le.mpr q), if_pos (decide_eq_true q), jz_sub]
    · rw [if_pos (Int32.not_lt.mp q), if_neg (by rw [decide_eq_true_eq]; exact q)]
  rw [e]
  exact kk H locs ls hP hD hS hl
end ROWS

section ROWS2
variable {g : XC} {k n : Nat} {ws : va_W} {pc : Nat} {L : List (Nat × Value)} {st : List Value} {cc : ByteArray} {own : String} {Ts : List Cond} {R0 : Room} {N0 : Nat} {α : Type} {K : α → Prop} {t u : Option α}
def cpyOk (sp dp m : Int) (n0 n1 : Nat) : Bool := !(decide (jz sp < 0) || decide (jz dp < 0) || decide (jz m < 0) || !decide (ix sp + ix m ≤ n0) || !decide (ix dp + ix m ≤ n1))
theorem cpyOk_s {sp dp m : Int} {n0 n1 : Nat} (h : cpyOk sp dp m n0 n1 = true) : ¬ jz sp < 0 ∧ ¬ jz dp < 0 ∧ ¬ jz m < 0 ∧ ix sp + ix m ≤ n0 ∧ ix dp + ix m ≤ n1 := by
  unfold cpyOk at h
  simp only [Bool.not_or, Bool.and_eq_true, Bool.not_eq_true', decide_eq_false_iff_not, Bool.not_not, decide_eq_true_eq] at h
  exact ⟨h.1.1.1.1, h.1.1.1.2, h.1.1.2, h.1.2, h.2⟩
theorem cpy_jA (f h : Nat → Int) (a b c : Nat) : va_cpy (jA f) (jA h) a b c = jA (va_cpy f h a b c) := by
  funext j
  by_cases q : b ≤ j ∧ j < b + c <;> simp [va_cpy, jA, q]
theorem r_copyi (C : XOk g cc own Ts R0 N0) {index : Nat} (d : decode cc pc = .ok (.invokestatic index, 3)) (w1 : Cond.methodLink own index arraycopyName ∈ Ts) (w2 : Cond.native arraycopyName ∈ Ts) (w3 : Cond.static arraycopyName ∈ Ts) (w4 : Cond.initialized "java/lang/System" ∈ Ts) {a a0 : Nat} {sp dp m : Int} {n0 n1 : Nat} {f h : Nat → Int} (hh : wp (grd (cpyOk sp dp m n0 n1) t) K) (q0 q1 : Nat) (ha0 : ws[q0]? = some (a0, aI (xG g) n0 f)) (ha1 : ws[q1]? = some (a, aI (xG g) n1 h)) (hf : 1 ≤ R0.frames) (hr : (st.map fun v => v.category).sum + (nativeFrameWords "java/lang/System" "arraycopy" 5 + 11) ≤ R0.locals) {ws' : va_W} (hw : ws.set q1 (a, aI (xG g) n1 (va_cpy f h (ix sp) (ix dp) (ix m))) = ws') (kk : wp t K → WW g k n ws' (pc + 3) L st) : WW g k n ws pc L (.int (jz m) :: .int (jz dp) :: .ref a :: .int (jz sp) :: .ref a0 :: st) := fun H locs ls hP hD hS hl => by
  obtain ⟨h1, h2, h3, h4, h5, h6, h7, h8, h9⟩ := C
  obtain ⟨g1, g2, g3, g4, g5⟩ := cpyOk_s (wp_g hh).1
  subst hw
  refine va_copyi h1 h2 (h3.trans hl.1.symm) h4 (h5 _ w1) (h5 _ w2) (h5 _ w3) (h5 _ w4) h6 hP hD hS q0 q1 0 0 ha0 ha1 rfl rfl rfl g1 g2 g3 g4 g5 (fun _ _ => rfl) (by rw [h8]; exact hf) (by rw [h8]; exact hr) d (fun H1 locs1 hP hD hS => ?_)
  rw [cpy_jA] at hP hD
  exact kk (wp_g hh).2 H1 locs1 ls hP hD hS hl
theorem r_copyl (C : XOk g cc own Ts R0 N0) {index : Nat} (d : decode cc pc = .ok (.invokestatic index, 3)) (w1 : Cond.methodLink own index arraycopyName ∈ Ts) (w2 : Cond.native arraycopyName ∈ Ts) (w3 : Cond.static arraycopyName ∈ Ts) (w4 : Cond.initialized "java/lang/System" ∈ Ts) {a a0 : Nat} {sp dp m : Int} {n0 n1 : Nat} {f h : Nat → Int64} (hh : wp (grd (cpyOk sp dp m n0 n1) t) K) (q0 q1 : Nat) (ha0 : ws[q0]? = some (a0, aJ (xG g) n0 f)) (ha1 : ws[q1]? = some (a, aJ (xG g) n1 h)) (hf : 1 ≤ R0.frames) (hr : (st.map fun v => v.category).sum + (nativeFrameWords "java/lang/System" "arraycopy" 5 + 11) ≤ R0.locals) {ws' : va_W} (hw : ws.set q1 (a, aJ (xG g) n1 (va_cpy f h (ix sp) (ix dp) (ix m))) = ws') (kk : wp t K → WW g k n ws' (pc + 3) L st) : WW g k n ws pc L (.int (jz m) :: .int (jz dp) :: .ref a :: .int (jz sp) :: .ref a0 :: st) := fun H locs ls hP hD hS hl => by
  obtain ⟨h1, h2, h3, h4, h5, h6, h7, h8, h9⟩ := C
  obtain ⟨g1, g2, g3, g4, g5⟩ := cpyOk_s (wp_g hh).1
  subst hw
  exact va_copyl h1 h2 (h3.trans hl.1.symm) h4 (h5 _ w1) (h5 _ w2) (h5 _ w3) (h5 _ w4) h6 hP hD hS q0 q1 1 1 ha0 ha1 rfl rfl rfl g1 g2 g3 g4 g5 (fun _ _ => rfl) (by rw [h8]; exact hf) (by rw [h8]; exact hr) d (fun H1 locs1 hP hD hS => kk (wp_g hh).2 H1 locs1 ls hP hD hS hl)
/-! a method's end, and its contract -/
def FinI (g : XC) (k n : Nat) (w' : va_W) (v : Int32) : Prop := ∀ cc, (xc g).code = cc → ∀ (pc : Nat) (L : List (Nat × Value)), decode cc pc = .ok (.ireturn, 1) → WW g k n w' pc L [.int v]
def FinL (g : XC) (k n : Nat) (w' : va_W) (v : Int64) : Prop := ∀ cc, (xc g).code = cc → ∀ (pc : Nat) (L : List (Nat × Value)), decode cc pc = .ok (.lreturn, 1) → WW g k n w' pc L [.long v]
def FinV (g : XC) (k n : Nat) (w' : va_W) : Prop := ∀ cc, (xc g).code = cc → ∀ (pc : Nat) (L : List (Nat × Value)), decode cc pc = .ok (.return_, 1) → WW g k n w' pc L []
theorem r_iret (C : XOk g cc own Ts R0 N0) (d : decode cc pc = .ok (.ireturn, 1)) {v : Int32} (hF : FinI g k n ws v) : WW g k n ws pc L [.int v] := hF _ C.2.1 pc L d
theorem r_lret (C : XOk g cc own Ts R0 N0) (d : decode cc pc = .ok (.lreturn, 1)) {v : Int64} (hF : FinL g k n ws v) : WW g k n ws pc L [.long v] := hF _ C.2.1 pc L d
theorem wp_s {x : α} (h : wp (some x) K) : K x := by
  obtain ⟨y, h1, h2⟩ := h
  cases h1
  exact h2
theorem sw1 {c : Bool} {P : Prop} (h : wp (if c = true then t else u) K) (kt : c = true → wp t K → P) (kf : c = false → wp u K → P) : P := by
  cases hc : c with
  | true => exact kt hc (wp_t h hc)
  | false => exact kf hc (wp_f h hc)
theorem r_let {z : Int} {kx : Int → Option α} (h : wp (lv z kx) K) (kk : ∀ x, wp (kx x) K → WW g k n ws pc L (.int (jz x) :: st)) : WW g k n ws pc L (.int (jz z) :: st) := kk z h
theorem r_letl {z : Int64} {kx : Int64 → Option α} (h : wp (lv z kx) K) (kk : ∀ x, wp (kx x) K → WW g k n ws pc L (.long x :: st)) : WW g k n ws pc L (.long z :: st) := kk z h
theorem r_vret (C : XOk g cc own Ts R0 N0) (d : decode cc pc = .ok (.return_, 1)) (hF : FinV g k n ws) : WW g k n ws pc L [] := hF _ C.2.1 pc L d
end ROWS2
abbrev PcW (G : gG) (w : va_W) (sz : Nat) (U : State) : Prop := U.heap.size = sz ∧ va_P G.1 vwCl w U.heap ∧ va_K G.1 vwCl (tyG G) U ∧ va_D (fun _ => True) w
def CTi (l : Launch) (y : MethodName) (wsY : List Cond) (rm : Room) (G : gG) (w : va_W) (av : List Value) (r : Int32) (w' : va_W) : Prop := ∀ sz : Nat, Met l y wsY rm (va_Pc av (PcW G w sz)) (va_Qi (fun (r' : Int32) (_ : Unit) => r' = r) (fun _ t => va_P G.1 vwCl w' t.heap ∧ va_D (va_A w sz) w') (va_A w sz)) 0 0 (va_A w sz)
def CTl (l : Launch) (y : MethodName) (wsY : List Cond) (rm : Room) (G : gG) (w : va_W) (av : List Value) (r : Int64) (w' : va_W) : Prop := ∀ sz : Nat, Met l y wsY rm (va_Pc av (PcW G w sz)) (va_Ql (fun (r' : Int64) (_ : Unit) => r' = r) (fun _ t => va_P G.1 vwCl w' t.heap ∧ va_D (va_A w sz) w') (va_A w sz)) 0 0 (va_A w sz)
def CTv (l : Launch) (y : MethodName) (wsY : List Cond) (rm : Room) (G : gG) (w : va_W) (av : List Value) (w' : va_W) : Prop := ∀ sz : Nat, Met l y wsY rm (va_Pc av (PcW G w sz)) (va_Qv (fun (_ : Unit) => True) (fun _ t => va_P G.1 vwCl w' t.heap ∧ va_D (va_A w sz) w') (va_A w sz)) 0 0 (va_A w sz)
theorem blind {av : List Value} {G : gG} {w : va_W} {sz : Nat} : FrameBlind (va_Pc av (PcW G w sz)) := fun a U g mk q => by
  obtain ⟨q0, q1, qP, qK, qD⟩ := q
  exact ⟨q0, q1, qP, va_K.moved (u := U) (U := U.calling g mk a) (Vm.Alike.refl U.vm) qK, qD⟩
section OFS
variable {l : Launch} {y : MethodName} {wsY wsY' : List Cond} {rm : Room} {G : gG} {w w' : va_W} {av : List Value} {cc : ByteArray} {nL : Nat} {own : String}
theorem CTi_of {r : Int32} {rt : FieldType} (hy : plainName y.cls = true) (hw : wsY = Cond.code y cc nL (some rt) :: wsY') (hcls : y.cls = own) (hargs : (lg_sl av).length ≤ nL) (body : ∀ g, XOk g cc own wsY rm nL → xG g = G → xl g = l → (narrow rt (.int r) = .int r → FinI g 0 0 w' r) → WW g 0 0 w 0 (lv_args 0 av) []) : CTi l y wsY rm G w av r w' := by
  intro sz
  refine Met.ofW (cc := cc) (maxL := nL) (ret := some rt) hy hw ?_
  intro p e s m args below meth c s₁ B hml hv
  obtain ⟨rfl, hsz, hP, hK, hD0⟩ := hv
  subst hsz
  have hx := B.exec
  have hts := atoms_spec (ws := wsY) B.pre
  have hown : s.vm.findClass own = some m.cls := by
    have h := findClass_of_methodNamed B.named
    rw [hcls] at h
    exact h
  have hlocks := B.notSynchronized
  have hD := hD0.self (sz := s.heap.size)
  have hl := lv_entry av (n := nL) hargs
  rw [lg_entry_eq]
  refine body ((p, l, e, (headSpec wsY rm).room, s, m), (av.toArray, below, meth, c, _), (G, va_A w s.heap.size, nL)) ⟨hx, B.bytes, hml, hown, hts, hK, fun q h => Or.inr h, rfl, rfl⟩ rfl rfl ?_ s.heap [] _ hP hD va_S.rf hl
  intro hret cc' hcc pc L hd H locs ls hP hD hS hl
  exact W.zret hx hcc B.returns hret (fun t ht hW => ⟨⟨r, (), rfl, rfl, by rw [ht]; exact hP, hD⟩, hS.F ht⟩) hS.2.2 hd
theorem CTl_of {r : Int64} (hy : plainName y.cls = true) (hw : wsY = Cond.code y cc nL (some .long) :: wsY') (hcls : y.cls = own) (hargs : (lg_sl av).length ≤ nL) (body : ∀ g, XOk g cc own wsY rm nL → xG g = G → xl g = l → FinL g 0 0 w' r → WW g 0 0 w 0 (lv_args 0 av) []) : CTl l y wsY rm G w av r w' := by
  intro sz
  refine Met.ofW (cc := cc) (maxL := nL) (ret := some .long) hy hw ?_
  intro p e s m args below meth c s₁ B hml hv
  obtain ⟨rfl, hsz, hP, hK, hD0⟩ := hv
  subst hsz
  have hx := B.exec
  have hts := atoms_spec (ws := wsY) B.pre
  have hown : s.vm.findClass own = some m.cls := by
    have h := findClass_of_methodNamed B.named
    rw [hcls] at h
    exact h
  have hlocks := B.notSynchronized
  have hD := hD0.self (sz := s.heap.size)
  have hl := lv_entry av (n := nL) hargs
  rw [lg_entry_eq]
  refine body ((p, l, e, (headSpec wsY rm).room, s, m), (av.toArray, below, meth, c, _), (G, va_A w s.heap.size, nL)) ⟨hx, B.bytes, hml, hown, hts, hK, fun q h => Or.inr h, rfl, rfl⟩ rfl rfl ?_ s.heap [] _ hP hD va_S.rf hl
  intro cc' hcc pc L hd H locs ls hP hD hS hl
  exact W.lret hx hcc B.returns (fun t ht hW => ⟨⟨r, (), rfl, rfl, by rw [ht]; exact hP, hD⟩, hS.F ht⟩) hS.2.2 hd
theorem CTv_of (hy : plainName y.cls = true) (hw : wsY = Cond.code y cc nL none :: wsY') (hcls : y.cls = own) (hargs : (lg_sl av).length ≤ nL) (body : ∀ g, XOk g cc own wsY rm nL → xG g = G → xl g = l → FinV g 0 0 w' → WW g 0 0 w 0 (lv_args 0 av) []) : CTv l y wsY rm G w av w' := by
  intro sz
  refine Met.ofW (cc := cc) (maxL := nL) (ret := none) hy hw ?_
  intro p e s m args below meth c s₁ B hml hv
  obtain ⟨rfl, hsz, hP, hK, hD0⟩ := hv
  subst hsz
  have hx := B.exec
  have hts := atoms_spec (ws := wsY) B.pre
  have hown : s.vm.findClass own = some m.cls := by
    have h := findClass_of_methodNamed B.named
    rw [hcls] at h
    exact h
  have hlocks := B.notSynchronized
  have hD := hD0.self (sz := s.heap.size)
  have hl := lv_entry av (n := nL) hargs
  rw [lg_entry_eq]
  refine body ((p, l, e, (headSpec wsY rm).room, s, m), (av.toArray, below, meth, c, _), (G, va_A w s.heap.size, nL)) ⟨hx, B.bytes, hml, hown, hts, hK, fun q h => Or.inr h, rfl, rfl⟩ rfl rfl ?_ s.heap [] _ hP hD va_S.rf hl
  intro cc' hcc pc L hd H locs ls hP hD hS hl
  exact W.vret hx hcc B.returns (fun t ht hW => ⟨⟨(), rfl, trivial, by rw [ht]; exact hP, hD⟩, hS.F ht⟩) hS.2.2 hd
end OFS
/-! calls: the callee's cells, at their places among the caller's -/
def putAt : List Nat → va_W → va_W → va_W
  | [], _, ws => ws
  | _ :: _, [], ws => ws
  | i :: is, e :: w, ws => putAt is w (ws.set i e)
theorem putAt_mem : ∀ (is : List Nat) (w ws : va_W) (k : Nat) (q : Nat × va_E), is.length = w.length → (putAt is w ws)[k]? = some q → q ∈ w ∨ (k ∉ is ∧ ws[k]? = some q)
  | [], [], ws, k, q, _, h => Or.inr ⟨List.not_mem_nil, h⟩
  | [], _ :: _, _, _, _, hl, _ => by cases hl
  | _ :: _, [], _, _, _, hl, _ => by cases hl
  | i :: is, e :: w, ws, k, q, hl, h => by
    rcases putAt_mem is w (ws.set i e) k q (Nat.succ.inj hl) h with h1 | ⟨h1, h2⟩
    · exact Or.inl (List.mem_cons_of_mem _ h1)
    · by_cases hk : i = k
      · subst hk
        have hi : i < ws.length := by
          have := (List.getElem?_eq_some_iff.mp h2).1
          rwa [List.length_set] at this
        rw [List.getElem?_set_self hi] at h2
        cases h2
        exact Or.inl List.mem_cons_self
      · rw [List.getElem?_set_ne hk] at h2
        exact Or.inr ⟨fun q => (List.mem_cons.mp q).elim (fun e => hk e.symm) h1, h2⟩
theorem va_P_map {D : va_G} {cl : List vw_C} {ws wc : va_W} {H : Heap} (h : va_P D cl ws H) (is : List Nat) (hs : is.map (fun i => ws[i]?) = wc.map some) : va_P D cl wc H := by
  intro k q hk
  have h1 : (is.map (fun i => ws[i]?))[k]? = some (some q) := by rw [hs, List.getElem?_map, hk]; rfl
  rw [List.getElem?_map] at h1
  cases hi : is[k]? with
  | none => rw [hi] at h1; cases h1
  | some i => rw [hi] at h1; exact h i q (Option.some.inj h1)
theorem va_D_adr {A : Nat → Prop} {ws ws' : va_W} (h : va_D A ws) (e : ws'.map (fun q => q.1) = ws.map (fun q => q.1)) : va_D A ws' := by
  have key : ∀ (k : Nat) (q : Nat × va_E), ws'[k]? = some q → ∃ q0, ws[k]? = some q0 ∧ q0.1 = q.1 := by
    intro k q hk
    have h1 : (ws'.map (fun q => q.1))[k]? = some q.1 := by rw [List.getElem?_map, hk]; rfl
    rw [e, List.getElem?_map] at h1
    cases h2 : ws[k]? with
    | none => rw [h2] at h1; cases h1
    | some q0 => rw [h2] at h1; exact ⟨q0, rfl, Option.some.inj h1⟩
  refine ⟨fun i j p q hi hj hpq => ?_, fun k q hk => ?_⟩
  · obtain ⟨p0, h1, h2⟩ := key i p hi
    obtain ⟨q0, h3, h4⟩ := key j q hj
    exact h.1 i j p0 q0 h1 h3 (h2.trans (hpq.trans h4.symm))
  · obtain ⟨q0, h1, h2⟩ := key k q hk
    rw [← h2]
    exact h.2 k q0 h1
/-- the cells w1 at the places isC, the others as they were -/
def Put (isC : List Nat) (w1 ws ws' : va_W) : Prop := ∀ (k : Nat) (q : Nat × va_E), ws'[k]? = some q → q ∈ w1 ∨ (k ∉ isC ∧ ws[k]? = some q)
theorem Put.a {isC : List Nat} {w1 ws ws' : va_W} (hlen : isC.length = w1.length) (h : putAt isC w1 ws = ws') : Put isC w1 ws ws' := by
  subst h
  exact fun k q hq => putAt_mem isC w1 ws k q hlen hq
def srt : Nat → List Nat → Bool
  | _, [] => true
  | k, i :: is => Nat.ble k i && srt (i + 1) is
theorem srt_ge : ∀ (k : Nat) (is : List Nat), srt k is = true → ∀ i ∈ is, k ≤ i
  | _, [], _, _, h => absurd h List.not_mem_nil
  | k, j :: is, hs, i, h => by
    unfold srt at hs
    rw [Bool.and_eq_true] at hs
    have h1 := Nat.le_of_ble_eq_true hs.1
    rcases List.mem_cons.mp h with rfl | h
    · exact h1
    · have := srt_ge (j + 1) is hs.2 i h
      omega
theorem srt_nd : ∀ (k : Nat) {is : List Nat}, srt k is = true → va_nd is = true
  | _, [], _ => rfl
  | k, j :: is, hs => by
    unfold srt at hs
    rw [Bool.and_eq_true] at hs
    unfold va_nd
    rw [Bool.and_eq_true]
    refine ⟨decide_eq_true fun h => ?_, srt_nd (j + 1) hs.2⟩
    have := srt_ge (j + 1) is hs.2 j h
    omega
def mergeS : Nat → List Nat → va_W → va_W → va_W
  | _, [], _, ws => ws
  | _, _ :: _, _, [] => []
  | _, _ :: _, [], x :: ws => x :: ws
  | k, i :: is, e :: w, x :: ws => bif Nat.beq k i then e :: mergeS (k + 1) is w ws else x :: mergeS (k + 1) (i :: is) (e :: w) ws
theorem mergeS_mem : ∀ (k : Nat) (is : List Nat) (w ws : va_W) (j : Nat) (q : Nat × va_E), is.length = w.length → srt k is = true → (mergeS k is w ws)[j]? = some q → q ∈ w ∨ (k + j ∉ is ∧ ws[j]? = some q)
  | _, [], _, ws, j, q, _, _, h => Or.inr ⟨List.not_mem_nil, by simpa [mergeS] using h⟩
  | _, _ :: _, _, [], j, q, _, _, h => by simp [mergeS] at h
  | _, _ :: _, [], _ :: _, _, _, hl, _, _ => by cases hl
  | k, i :: is, e :: w, x :: ws, j, q, hl, hs, h => by
    have hs0 := hs
    unfold srt at hs
    rw [Bool.and_eq_true] at hs
    have h1 := Nat.le_of_ble_eq_true hs.1
    unfold mergeS at h
    cases hb : Nat.beq k i with
    | true =>
      have hki := Nat.eq_of_beq_eq_true hb
      subst hki
      rw [hb] at h
      cases j with
      | zero =>
        cases h
        exact Or.inl List.mem_cons_self
      | succ j =>
        have h' : (mergeS (k + 1) is w ws)[j]? = some q := by simpa using h
        rcases mergeS_mem (k + 1) is w ws j q (Nat.succ.inj hl) hs.2 h' with h2 | ⟨h2, h3⟩
        · exact Or.inl (List.mem_cons_of_mem _ h2)
        · refine Or.inr ⟨fun hm => ?_, by simpa using h3⟩
          rcases List.mem_cons.mp hm with h4 | h4
          · omega
          · exact h2 (by rw [show k + 1 + j = k + (j + 1) by omega]; exact h4)
    | false =>
      have hne : k ≠ i := fun e => by rw [e] at hb; exact absurd (Nat.beq_refl i) (by rw [hb]; decide)
      rw [hb] at h
      cases j with
      | zero =>
        cases h
        refine Or.inr ⟨fun hm => ?_, rfl⟩
        rcases List.mem_cons.mp hm with h4 | h4
        · omega
        · have := srt_ge (i + 1) is hs.2 _ h4
          omega
      | succ j =>
        have h' : (mergeS (k + 1) (i :: is) (e :: w) ws)[j]? = some q := by simpa using h
        have hs' : srt (k + 1) (i :: is) = true := by
          unfold srt
          rw [Bool.and_eq_true]
          exact ⟨Nat.ble_eq_true_of_le (by omega), hs.2⟩
        rcases mergeS_mem (k + 1) (i :: is) (e :: w) ws j q hl hs' h' with h2 | ⟨h2, h3⟩
        · exact Or.inl h2
        · exact Or.inr ⟨by rw [show k + (j + 1) = k + 1 + j by omega]; exact h2, by simpa using h3⟩
theorem Put.m {isC : List Nat} {w1 ws ws' : va_W} (hlen : isC.length = w1.length) (hs : srt 0 isC = true) (h : mergeS 0 isC w1 ws = ws') : Put isC w1 ws ws' := by
  subst h
  intro k q hq
  rcases mergeS_mem 0 isC w1 ws k q hlen hs hq with h | ⟨h1, h2⟩
  · exact Or.inl h
  · exact Or.inr ⟨by rw [Nat.zero_add] at h1; exact h1, h2⟩
theorem Put.p {isC isC' : List Nat} {w1 ws ws' : va_W} (pm : List Nat) (hlen : isC'.length = (pm.filterMap (fun i => w1[i]?)).length) (hs : srt 0 isC' = true) (h2 : isC.all (fun i => isC'.contains i) = true) (h : mergeS 0 isC' (pm.filterMap (fun i => w1[i]?)) ws = ws') : Put isC w1 ws ws' := by
  intro k q hq
  rcases Put.m hlen hs h k q hq with h | ⟨h3, h4⟩
  · obtain ⟨i, -, hi⟩ := List.mem_filterMap.mp h
    exact Or.inl (List.mem_of_getElem? hi)
  · refine Or.inr ⟨fun hm => h3 ?_, h4⟩
    have := List.all_eq_true.mp h2 k hm
    simpa using this
theorem Put.same {isC : List Nat} {wc ws : va_W} : Put isC wc ws ws ↔ ∀ (k : Nat) (q : Nat × va_E), ws[k]? = some q → q ∈ wc ∨ k ∉ isC := ⟨fun h k q hq => (h k q hq).imp id And.left, fun h k q hq => (h k q hq).imp id (fun z => ⟨z, hq⟩)⟩
theorem join2 {A0 : Nat → Prop} {D : va_G} {cl : List vw_C} {ws wc w1 ws' : va_W} {H H1 : Heap} (hP : va_P D cl ws H) (hD : va_D A0 ws) (isC : List Nat) (hC : isC.map (fun i => ws[i]?) = wc.map some) (hput : Put isC w1 ws ws') (hadr : ws'.map (fun q => q.1) = ws.map (fun q => q.1))
    (hk : ∀ q : Nat, q < H.size → ¬ va_A wc H.size q → H1[q]? = H[q]?) (hP1 : va_P D cl w1 H1) : va_P D cl ws' H1 ∧ va_D A0 ws' := by
  refine ⟨fun k q hq => ?_, va_D_adr hD hadr⟩
  rcases hput k q hq with h | ⟨h1, h2⟩
  · obtain ⟨i, hi⟩ := List.getElem?_of_mem h
    exact hP1 i q hi
  · have hl := (hP k q h2).lt
    refine (hP k q h2).kept (hk q.1 hl (fun hA => ?_))
    rcases hA with ⟨k2, e, h⟩ | h
    · have h3 : (isC.map (fun i => ws[i]?))[k2]? = some (some (q.1, e)) := by rw [hC, List.getElem?_map, h]; rfl
      rw [List.getElem?_map] at h3
      cases hi : isC[k2]? with
      | none => rw [hi] at h3; cases h3
      | some i =>
        rw [hi] at h3
        have hij := hD.1 k i q (q.1, e) h2 (Option.some.inj h3) rfl
        subst hij
        exact h1 (List.mem_of_getElem? hi)
    · omega
section CALLS
variable {g : XC} {k n : Nat} {ws ws' wc w1 : va_W} {pc : Nat} {L : List (Nat × Value)} {st rest : List Value} {cc : ByteArray} {own Cn : String} {Ts : List Cond} {R0 : Room} {N0 : Nat} {y : MethodName} {wsY wsY' : List Cond} {rm : Room} {bytes : ByteArray} {maxL index : Nat} {ret : Option FieldType} {b : Nat} {As : List Value} {fs : List Value} {q : vw_C}
theorem b_cVi (C : XOk g cc own Ts R0 N0) (d : decode cc pc = .ok (.invokevirtual index, 3)) {r : Int32} (hM : CTi (xl g) y wsY rm (xG g) wc (.ref b :: As) r w1) (hw : wsY = Cond.code y bytes maxL ret :: wsY') (hG : GoodIn Ts (wsV own index Cn y wsY)) (hz : rm.cells = 0 ∧ rm.slots = 0) (nA : Nat) (hd : y.cls = Cn ∧ y.cls ≠ "java/lang/invoke/MethodHandle" ∧ y.cls ≠ "java/lang/invoke/VarHandle" ∧ (parseMethodDescriptor y.desc).map (fun d => d.parameters.length) = some nA) (hR : rm.frames + 1 ≤ R0.frames ∧ 8 + (maxL + 11) + rm.locals ≤ R0.locals) (hAs : As.length = nA) (q0 : Nat) {ci : Nat} (hrv : ws[q0]? = some (b, .inr (ci, fs))) (hcl : vwCl[ci]? = some q) (hCn : q.1 = Cn) (isC : List Nat) (hC : isC.map (fun i => ws[i]?) = wc.map some) (hnd : va_nd isC = true) (hput : Put isC w1 ws ws') (hadr : ws'.map (fun q => q.1) = ws.map (fun q => q.1)) (hst : st = As.reverse ++ .ref b :: rest) (hrest : (rest.map fun v => v.category).sum ≤ 8) (hkc : k ≤ R0.cells ∧ n ≤ R0.slots) (kk : WW g k n ws' (pc + 3) L (.int r :: rest)) : WW g k n ws pc L st := fun H locs ls hP hD hS hl => by
  obtain ⟨h1, h2, h3, h4, h5, h6, h7, h8, h9⟩ := C
  subst h8
  have hPc := va_P_map hP isC hC
  have hDc := hD.sub isC hnd hC
  have hFc := va_free hD hS h7 isC hC
  refine va_calli (va_runV (As := As) (rest := rest) ⟨h1, h2, h3, h4, h5⟩ (hM H.size) (cwV nA h5 hG hw hz.1 hz.2 hd hR) ⟨blind, (by rw [← hCn]; exact va_recv h6 hP hcl hrv), fun U hU hW => ⟨rfl, by rw [hU], by rw [hU]; exact hPc, va_K.moved hW.alike h6, hDc.weaken (fun _ _ _ _ => trivial)⟩⟩ rfl hAs hl.1 hst (lv_room hrest) d hkc) hS (fun q _ h => hFc q h) hFc (fun r' u' t H1 locs1 ht hvm hw' hB hz1 hk1 hS' => ?_)
  subst hw'
  obtain ⟨hP1, hD1⟩ := hB
  rw [ht] at hP1
  obtain ⟨hP2, hD2⟩ := join2 hP hD isC hC hput hadr hk1 hP1
  exact kk H1 locs1 ls hP2 hD2 hS' hl
theorem b_cSi (C : XOk g cc own Ts R0 N0) (d : decode cc pc = .ok (.invokestatic index, 3)) {r : Int32} (hM : CTi (xl g) y wsY rm (xG g) wc As r w1) (hw : wsY = Cond.code y bytes maxL ret :: wsY') (hG : GoodIn Ts (va_wsS own index y wsY)) (hz : rm.cells = 0 ∧ rm.slots = 0) (nA : Nat) (hd : y.cls ≠ "java/lang/invoke/MethodHandle" ∧ y.cls ≠ "java/lang/invoke/VarHandle" ∧ (parseMethodDescriptor y.desc).map (fun d => d.parameters.length) = some nA) (hR : rm.frames + 1 ≤ R0.frames ∧ 8 + (maxL + 11) + rm.locals ≤ R0.locals) (hAs : As.length = nA) (isC : List Nat) (hC : isC.map (fun i => ws[i]?) = wc.map some) (hnd : va_nd isC = true) (hput : Put isC w1 ws ws') (hadr : ws'.map (fun q => q.1) = ws.map (fun q => q.1)) (hst : st = As.reverse ++ rest) (hrest : (rest.map fun v => v.category).sum ≤ 8) (hkc : k ≤ R0.cells ∧ n ≤ R0.slots) (kk : WW g k n ws' (pc + 3) L (.int r :: rest)) : WW g k n ws pc L st := fun H locs ls hP hD hS hl => by
  obtain ⟨h1, h2, h3, h4, h5, h6, h7, h8, h9⟩ := C
  subst h8
  have hPc := va_P_map hP isC hC
  have hDc := hD.sub isC hnd hC
  have hFc := va_free hD hS h7 isC hC
  refine va_calli (va_runS (As := As) (rest := rest) ⟨h1, h2, h3, h4, h5⟩ (hM H.size) (va_cwS nA h5 hG hw hz.1 hz.2 hd hR) ⟨blind, fun U hU hW => ⟨rfl, by rw [hU], by rw [hU]; exact hPc, va_K.moved hW.alike h6, hDc.weaken (fun _ _ _ _ => trivial)⟩⟩ rfl hAs hl.1 hst (lv_room hrest) d hkc) hS (fun q _ h => hFc q h) hFc (fun r' u' t H1 locs1 ht hvm hw' hB hz1 hk1 hS' => ?_)
  subst hw'
  obtain ⟨hP1, hD1⟩ := hB
  rw [ht] at hP1
  obtain ⟨hP2, hD2⟩ := join2 hP hD isC hC hput hadr hk1 hP1
  exact kk H1 locs1 ls hP2 hD2 hS' hl
theorem b_cVl (C : XOk g cc own Ts R0 N0) (d : decode cc pc = .ok (.invokevirtual index, 3)) {r : Int64} (hM : CTl (xl g) y wsY rm (xG g) wc (.ref b :: As) r w1) (hw : wsY = Cond.code y bytes maxL ret :: wsY') (hG : GoodIn Ts (wsV own index Cn y wsY)) (hz : rm.cells = 0 ∧ rm.slots = 0) (nA : Nat) (hd : y.cls = Cn ∧ y.cls ≠ "java/lang/invoke/MethodHandle" ∧ y.cls ≠ "java/lang/invoke/VarHandle" ∧ (parseMethodDescriptor y.desc).map (fun d => d.parameters.length) = some nA) (hR : rm.frames + 1 ≤ R0.frames ∧ 8 + (maxL + 11) + rm.locals ≤ R0.locals) (hAs : As.length = nA) (q0 : Nat) {ci : Nat} (hrv : ws[q0]? = some (b, .inr (ci, fs))) (hcl : vwCl[ci]? = some q) (hCn : q.1 = Cn) (isC : List Nat) (hC : isC.map (fun i => ws[i]?) = wc.map some) (hnd : va_nd isC = true) (hput : Put isC w1 ws ws') (hadr : ws'.map (fun q => q.1) = ws.map (fun q => q.1)) (hst : st = As.reverse ++ .ref b :: rest) (hrest : (rest.map fun v => v.category).sum ≤ 8) (hkc : k ≤ R0.cells ∧ n ≤ R0.slots) (kk : WW g k n ws' (pc + 3) L (.long r :: rest)) : WW g k n ws pc L st := fun H locs ls hP hD hS hl => by
  obtain ⟨h1, h2, h3, h4, h5, h6, h7, h8, h9⟩ := C
  subst h8
  have hPc := va_P_map hP isC hC
  have hDc := hD.sub isC hnd hC
  have hFc := va_free hD hS h7 isC hC
  refine va_calll (va_runV (As := As) (rest := rest) ⟨h1, h2, h3, h4, h5⟩ (hM H.size) (cwV nA h5 hG hw hz.1 hz.2 hd hR) ⟨blind, (by rw [← hCn]; exact va_recv h6 hP hcl hrv), fun U hU hW => ⟨rfl, by rw [hU], by rw [hU]; exact hPc, va_K.moved hW.alike h6, hDc.weaken (fun _ _ _ _ => trivial)⟩⟩ rfl hAs hl.1 hst (lv_room hrest) d hkc) hS (fun q _ h => hFc q h) hFc (fun r' u' t H1 locs1 ht hvm hw' hB hz1 hk1 hS' => ?_)
  subst hw'
  obtain ⟨hP1, hD1⟩ := hB
  rw [ht] at hP1
  obtain ⟨hP2, hD2⟩ := join2 hP hD isC hC hput hadr hk1 hP1
  exact kk H1 locs1 ls hP2 hD2 hS' hl
theorem b_cSl (C : XOk g cc own Ts R0 N0) (d : decode cc pc = .ok (.invokestatic index, 3)) {r : Int64} (hM : CTl (xl g) y wsY rm (xG g) wc As r w1) (hw : wsY = Cond.code y bytes maxL ret :: wsY') (hG : GoodIn Ts (va_wsS own index y wsY)) (hz : rm.cells = 0 ∧ rm.slots = 0) (nA : Nat) (hd : y.cls ≠ "java/lang/invoke/MethodHandle" ∧ y.cls ≠ "java/lang/invoke/VarHandle" ∧ (parseMethodDescriptor y.desc).map (fun d => d.parameters.length) = some nA) (hR : rm.frames + 1 ≤ R0.frames ∧ 8 + (maxL + 11) + rm.locals ≤ R0.locals) (hAs : As.length = nA) (isC : List Nat) (hC : isC.map (fun i => ws[i]?) = wc.map some) (hnd : va_nd isC = true) (hput : Put isC w1 ws ws') (hadr : ws'.map (fun q => q.1) = ws.map (fun q => q.1)) (hst : st = As.reverse ++ rest) (hrest : (rest.map fun v => v.category).sum ≤ 8) (hkc : k ≤ R0.cells ∧ n ≤ R0.slots) (kk : WW g k n ws' (pc + 3) L (.long r :: rest)) : WW g k n ws pc L st := fun H locs ls hP hD hS hl => by
  obtain ⟨h1, h2, h3, h4, h5, h6, h7, h8, h9⟩ := C
  subst h8
  have hPc := va_P_map hP isC hC
  have hDc := hD.sub isC hnd hC
  have hFc := va_free hD hS h7 isC hC
  refine va_calll (va_runS (As := As) (rest := rest) ⟨h1, h2, h3, h4, h5⟩ (hM H.size) (va_cwS nA h5 hG hw hz.1 hz.2 hd hR) ⟨blind, fun U hU hW => ⟨rfl, by rw [hU], by rw [hU]; exact hPc, va_K.moved hW.alike h6, hDc.weaken (fun _ _ _ _ => trivial)⟩⟩ rfl hAs hl.1 hst (lv_room hrest) d hkc) hS (fun q _ h => hFc q h) hFc (fun r' u' t H1 locs1 ht hvm hw' hB hz1 hk1 hS' => ?_)
  subst hw'
  obtain ⟨hP1, hD1⟩ := hB
  rw [ht] at hP1
  obtain ⟨hP2, hD2⟩ := join2 hP hD isC hC hput hadr hk1 hP1
  exact kk H1 locs1 ls hP2 hD2 hS' hl
theorem b_cVv (C : XOk g cc own Ts R0 N0) (d : decode cc pc = .ok (.invokevirtual index, 3)) (hM : CTv (xl g) y wsY rm (xG g) wc (.ref b :: As) w1) (hw : wsY = Cond.code y bytes maxL ret :: wsY') (hG : GoodIn Ts (wsV own index Cn y wsY)) (hz : rm.cells = 0 ∧ rm.slots = 0) (nA : Nat) (hd : y.cls = Cn ∧ y.cls ≠ "java/lang/invoke/MethodHandle" ∧ y.cls ≠ "java/lang/invoke/VarHandle" ∧ (parseMethodDescriptor y.desc).map (fun d => d.parameters.length) = some nA) (hR : rm.frames + 1 ≤ R0.frames ∧ 8 + (maxL + 11) + rm.locals ≤ R0.locals) (hAs : As.length = nA) (q0 : Nat) {ci : Nat} (hrv : ws[q0]? = some (b, .inr (ci, fs))) (hcl : vwCl[ci]? = some q) (hCn : q.1 = Cn) (isC : List Nat) (hC : isC.map (fun i => ws[i]?) = wc.map some) (hnd : va_nd isC = true) (hput : Put isC w1 ws ws') (hadr : ws'.map (fun q => q.1) = ws.map (fun q => q.1)) (hst : st = As.reverse ++ .ref b :: rest) (hrest : (rest.map fun v => v.category).sum ≤ 8) (hkc : k ≤ R0.cells ∧ n ≤ R0.slots) (kk : WW g k n ws' (pc + 3) L rest) : WW g k n ws pc L st := fun H locs ls hP hD hS hl => by
  obtain ⟨h1, h2, h3, h4, h5, h6, h7, h8, h9⟩ := C
  subst h8
  have hPc := va_P_map hP isC hC
  have hDc := hD.sub isC hnd hC
  have hFc := va_free hD hS h7 isC hC
  refine va_callv (va_runV (As := As) (rest := rest) ⟨h1, h2, h3, h4, h5⟩ (hM H.size) (cwV nA h5 hG hw hz.1 hz.2 hd hR) ⟨blind, (by rw [← hCn]; exact va_recv h6 hP hcl hrv), fun U hU hW => ⟨rfl, by rw [hU], by rw [hU]; exact hPc, va_K.moved hW.alike h6, hDc.weaken (fun _ _ _ _ => trivial)⟩⟩ rfl hAs hl.1 hst (lv_room hrest) d hkc) hS (fun q _ h => hFc q h) hFc (fun u' t H1 locs1 ht hvm hw' hB hz1 hk1 hS' => ?_)
  obtain ⟨hP1, hD1⟩ := hB
  rw [ht] at hP1
  obtain ⟨hP2, hD2⟩ := join2 hP hD isC hC hput hadr hk1 hP1
  exact kk H1 locs1 ls hP2 hD2 hS' hl
theorem b_cSv (C : XOk g cc own Ts R0 N0) (d : decode cc pc = .ok (.invokestatic index, 3)) (hM : CTv (xl g) y wsY rm (xG g) wc As w1) (hw : wsY = Cond.code y bytes maxL ret :: wsY') (hG : GoodIn Ts (va_wsS own index y wsY)) (hz : rm.cells = 0 ∧ rm.slots = 0) (nA : Nat) (hd : y.cls ≠ "java/lang/invoke/MethodHandle" ∧ y.cls ≠ "java/lang/invoke/VarHandle" ∧ (parseMethodDescriptor y.desc).map (fun d => d.parameters.length) = some nA) (hR : rm.frames + 1 ≤ R0.frames ∧ 8 + (maxL + 11) + rm.locals ≤ R0.locals) (hAs : As.length = nA) (isC : List Nat) (hC : isC.map (fun i => ws[i]?) = wc.map some) (hnd : va_nd isC = true) (hput : Put isC w1 ws ws') (hadr : ws'.map (fun q => q.1) = ws.map (fun q => q.1)) (hst : st = As.reverse ++ rest) (hrest : (rest.map fun v => v.category).sum ≤ 8) (hkc : k ≤ R0.cells ∧ n ≤ R0.slots) (kk : WW g k n ws' (pc + 3) L rest) : WW g k n ws pc L st := fun H locs ls hP hD hS hl => by
  obtain ⟨h1, h2, h3, h4, h5, h6, h7, h8, h9⟩ := C
  subst h8
  have hPc := va_P_map hP isC hC
  have hDc := hD.sub isC hnd hC
  have hFc := va_free hD hS h7 isC hC
  refine va_callv (va_runS (As := As) (rest := rest) ⟨h1, h2, h3, h4, h5⟩ (hM H.size) (va_cwS nA h5 hG hw hz.1 hz.2 hd hR) ⟨blind, fun U hU hW => ⟨rfl, by rw [hU], by rw [hU]; exact hPc, va_K.moved hW.alike h6, hDc.weaken (fun _ _ _ _ => trivial)⟩⟩ rfl hAs hl.1 hst (lv_room hrest) d hkc) hS (fun q _ h => hFc q h) hFc (fun u' t H1 locs1 ht hvm hw' hB hz1 hk1 hS' => ?_)
  obtain ⟨hP1, hD1⟩ := hB
  rw [ht] at hP1
  obtain ⟨hP2, hD2⟩ := join2 hP hD isC hC hput hadr hk1 hP1
  exact kk H1 locs1 ls hP2 hD2 hS' hl
end CALLS
/-- the reference: its numbers F, the cells of its rows q -/
abbrev oX9 (F : Nat → Int) (q : Nat → Nat) : va_E := .inr (8, [.int (jz (F 0)), .ref (q 1), .ref (q 2), .ref (q 3), .int (jz (F 4)), .ref (q 5), .ref (q 6), .int (jz (F 7)), .ref (q 8), .ref (q 9), .int (jz (F 10)), .ref (q 11), .ref (q 12), .ref (q 13), .ref (q 14), .int (jz (F 15)), .ref (q 16), .ref (q 17), .ref (q 18), .ref (q 19), .ref (q 20), .ref (q 21), .ref (q 22), .int (jz (F 23)), .ref (q 24), .ref (q 25), .ref (q 26), .int (jz (F 27)), .int (jz (F 28)), .ref (q 29), .ref (q 30), .ref (q 31), .ref (q 32), .int (jz (F 33)), .ref (q 34)])
