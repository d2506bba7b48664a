/-! PURE PART: span -/
def mx (a b : Int) : Int := if a < b then b else a
theorem mx_max {a b : Int} (ha : 0 ≤ a ∧ a ≤ 40) (hb : 0 ≤ b ∧ b ≤ 40) : maxI a b = mx a b := by
  unfold maxI mx
  rw [ltI_eq (by omega) (by omega) (by omega) (by omega)]
  by_cases c : a < b
  · rw [decide_eq_true c, if_pos rfl, if_pos c]
  · rw [decide_eq_false c, if_neg (by decide), if_neg c]
theorem mx_in {a b : Int} (ha : 0 ≤ a ∧ a ≤ 40) (hb : 0 ≤ b ∧ b ≤ 40) : 0 ≤ mx a b ∧ mx a b ≤ 40 := by
  unfold mx
  split <;> omega
theorem mx_c (a b c : Int) : mx (mx a b) c = mx (mx a c) b := by
  have e : ∀ p q : Int, (p < q ∧ mx p q = q) ∨ (q ≤ p ∧ mx p q = p) := by
    intro p q
    unfold mx
    split <;> omega
  have e1 := e a b
  have e2 := e a c
  have e3 := e (mx a b) c
  have e4 := e (mx a c) b
  omega
theorem fld_max {f : Nat → Int} {a : Int} (ha : 0 ≤ a ∧ a ≤ 40) : ∀ n : Nat, (∀ t, t < n → 0 ≤ f t ∧ f t ≤ 40) → fld maxI f a n = fld mx f a n ∧ 0 ≤ fld mx f a n ∧ fld mx f a n ≤ 40
  | 0, _ => ⟨rfl, ha⟩
  | n + 1, hf => by
    obtain ⟨h1, h2⟩ := fld_max ha n (fun t ht => hf t (by omega))
    show maxI (fld maxI f a n) (f n) = mx (fld mx f a n) (f n) ∧ _
    rw [h1, mx_max h2 (hf n (by omega))]
    exact ⟨rfl, mx_in h2 (hf n (by omega))⟩
theorem ot_max {h h' : Nat → Int → Int} : ∀ n : Nat, (∀ k a, k < n → (0 ≤ a ∧ a ≤ 40) → h k a = h' k a ∧ 0 ≤ h' k a ∧ h' k a ≤ 40) → ot h n = ot h' n ∧ 0 ≤ ot h' n ∧ ot h' n ≤ 40
  | 0, _ => ⟨rfl, (show (0:Int) ≤ 0 by omega), (show (0:Int) ≤ 40 by omega)⟩
  | n + 1, hh => by
    obtain ⟨h1, h2⟩ := ot_max n (fun k a hk ha => hh k a (by omega) ha)
    show h n (ot h n) = h' n (ot h' n) ∧ _
    rw [h1]
    exact hh n _ (by omega) h2
theorem span_same {n : Int} {g far : Nat → Int} (h3 : 3 ≤ n) (h5 : n ≤ 5) (tg : Tb g) (tf : Tb far) (ag : Ag n g far) : ∃ r, f_X4_span n g = some r ∧ f_X9_span n far = some r ∧ 0 ≤ r ∧ r ≤ 40 := by
  obtain ⟨m, rfl⟩ := toN (show 0 ≤ n by omega)
  have a1 := ot_max (h := fun k a => fld maxI (fun t => g (5 * k + (k + 1 + t))) a (m - (k + 1))) (h' := fun k a => fld mx (fun t => g (5 * k + (k + 1 + t))) a (m - (k + 1))) m (fun k a hk ha => fld_max ha _ (fun t ht => by
    have := tg k (k + 1 + t) (by omega) (by omega)
    exact ⟨this.1, this.2.1⟩))
  have a2 := ot_max (h := fun k a => fld maxI (fun j => far (5 * k + j)) a k) (h' := fun k a => fld mx (fun j => far (5 * k + j)) a k) m (fun k a hk ha => fld_max ha _ (fun t ht => by
    have := tf k t (by omega) (by omega)
    exact ⟨this.1, this.2.1⟩))
  have e := pr_same mx_c (n := m) (by omega) (by omega) tf ag
  refine ⟨pr4 mx g m, ?_, ?_, a1.2⟩
  · rw [span_X4 (by omega)]
    exact congrArg some a1.1
  · rw [span_X9 (by omega), e]
    exact congrArg some a2.1
