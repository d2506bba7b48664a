/-! PURE PART: text, one sign -/
/-- the sign at k, -1 behind the text -/
def sgn (h : Nat) (s : Nat → Int) (k : Nat) : Int := if k < h then s k else -1
abbrev dgt (h : Nat) (s : Nat → Int) (k : Nat) : Prop := 48 ≤ sgn h s k ∧ sgn h s k ≤ 57
/-- the text is held alike -/
def TX (h : Nat) (s t : Nat → Int) : Prop := h ≤ 100 ∧ ∀ k : Nat, k < h → s k = t k ∧ 0 ≤ s k ∧ s k ≤ 127
theorem sgn_r {h : Nat} {s t : Nat → Int} (T : TX h s t) (k : Nat) : -1 ≤ sgn h s k ∧ sgn h s k ≤ 127 := by
  unfold sgn
  by_cases c : k < h
  · rw [if_pos c]
    have := T.2 k c
    omega
  · rw [if_neg c]
    omega
theorem sgn_in {h : Nat} {s : Nat → Int} {k : Nat} (c : k < h) : sgn h s k = s k := if_pos c
theorem sgn_out {h : Nat} {s : Nat → Int} {k : Nat} (c : h ≤ k) : sgn h s k = -1 := if_neg (by omega)
theorem dgt_in {h : Nat} {s : Nat → Int} {k : Nat} (d : dgt h s k) : k < h := by
  by_cases c : k < h
  · exact c
  · have e := sgn_out (s := s) (show h ≤ k by omega)
    rw [dgt, e] at d
    omega
theorem signAt_X6 {h p : Nat} {s t : Nat → Int} (T : TX h s t) (hp : p < 2147483648) : f_X6_signAt p h s = some (sgn h s p) := by
  have h1 := T.1
  have w : wp (f_X6_signAt p h s) (fun r => r = sgn h s p) := by
    unfold f_X6_signAt
    refine w_j ?_
    refine w_j ?_
    refine w_ltF (by omega) ?_
    refine w_lt (by omega) (fun c => ?_) (fun c => ?_)
    · refine w_gi (by omega) ?_
      rw [ix_nat hp]
      exact w_s (sgn_in (by omega)).symm
    · exact w_s (sgn_out (by omega)).symm
  obtain ⟨r, e1, e2⟩ := w
  rw [e1, e2]
theorem isDigit_X6 {v : Int} (h : -1 ≤ v ∧ v ≤ 127) : f_X6_isDigit v = some (b01 (48 ≤ v ∧ v ≤ 57)) := by
  have w : wp (f_X6_isDigit v) (fun r => r = b01 (48 ≤ v ∧ v ≤ 57)) := by
    unfold f_X6_isDigit
    refine w_j ?_
    refine w_j ?_
    refine w_lt (by omega) (fun c => ?_) (fun c => ?_)
    · exact w_g0 (w_s (b01_f (by omega)).symm)
    refine w_lt (by omega) (fun d => ?_) (fun d => ?_)
    · exact w_g0 (w_s (b01_f (by omega)).symm)
    · exact w_g1 (w_s (b01_t (by omega)).symm)
  obtain ⟨r, e1, e2⟩ := w
  rw [e1, e2]
/-- the digits from p on, at most m of them -/
def DN (h : Nat) (s : Nat → Int) (p m n : Nat) : Prop := n ≤ m ∧ (∀ j, j < n → dgt h s (p + j)) ∧ (n = m ∨ ¬ dgt h s (p + n))
theorem pastDigits_X6 {h p lo hi : Nat} {s t : Nat → Int} (T : TX h s t) (hp : p < 1000) (hh : hi ≤ 4) (hl : lo ≤ hi) : wp (f_X6_pastDigits p lo hi h s) (fun r => ∃ n, DN h s p hi n ∧ (n < lo ∧ r = -1 - ((p + n : Nat) : Int) ∨ lo ≤ n ∧ r = ((p + n : Nat) : Int))) := by
  unfold f_X6_pastDigits
  have last : ∀ n : Nat, DN h s p hi n → wp (jn (fun (s0_49 : Int) => some s0_49) (fun (k49 : Int → Option Int) => if ltI (n : Int) (lo : Int) = true then (bd1 (f_X6_turned ((p : Int) + n)) (fun r39 => k49 r39)) else (k49 ((p : Int) + n)))) (fun r => ∃ n, DN h s p hi n ∧ (n < lo ∧ r = -1 - ((p + n : Nat) : Int) ∨ lo ≤ n ∧ r = ((p + n : Nat) : Int))) := fun n hn => by
    have := hn.1
    refine w_j ?_
    refine w_lt (by omega) (fun c => ?_) (fun c => ?_)
    · exact w_s ⟨n, hn, Or.inl ⟨by omega, by omega⟩⟩
    · exact w_s ⟨n, hn, Or.inr ⟨by omega, by omega⟩⟩
  refine w_q1 (fun k v => v = (k : Int) ∧ ∀ j, j < k → dgt h s (p + j)) hi 0 ⟨rfl, fun j hj => absurd hj (Nat.not_lt_zero _)⟩ (by omega) (by omega) (fun k hk v hI nx hn => ?_) (fun v hI nx => ?_)
  · obtain ⟨rfl, t1⟩ := hI
    refine w_j ?_
    refine w_ltT (by omega) ?_
    have e : (p : Int) + (k : Int) = ((p + k : Nat) : Int) := by omega
    refine w_b1s (by rw [e]; exact signAt_X6 T (by omega)) ?_
    refine w_b1s (isDigit_X6 (sgn_r T _)) ?_
    refine w_B (fun c => ?_) (fun c => ?_)
    · exact last k ⟨by omega, t1, Or.inr c⟩
    · exact hn _ ⟨by omega, fa_s t1 c⟩
  · obtain ⟨rfl, t1⟩ := hI
    refine w_j ?_
    refine w_ltF (by omega) ?_
    exact last hi ⟨by omega, t1, Or.inl rfl⟩
theorem DN_u {h p m n n' : Nat} {s : Nat → Int} (a : DN h s p m n) (b : DN h s p m n') : n = n' := by
  obtain ⟨a1, a2, a3⟩ := a
  obtain ⟨b1, b2, b3⟩ := b
  by_cases c : n < n'
  · exact absurd (b2 n c) (by rcases a3 with z | z; omega; exact z)
  by_cases d : n' < n
  · exact absurd (a2 n' d) (by rcases b3 with z | z; omega; exact z)
  omega
/-! PURE PART: the reference's signs -/
theorem isDigit_X9 {h p : Nat} {s t : Nat → Int} (T : TX h s t) (hp : p < 2147483648) : f_X9_isDigit h p t = some (b01 (dgt h s p)) := by
  have h1 := T.1
  have w : wp (f_X9_isDigit h p t) (fun r => r = b01 (dgt h s p)) := by
    unfold f_X9_isDigit
    refine w_j ?_
    refine w_j ?_
    refine w_lt (by omega) (fun c => ?_) (fun c => ?_)
    · have e := sgn_in (s := s) (show p < h by omega)
      have r := T.2 p (by omega)
      refine w_gi (by omega) ?_
      rw [ix_nat hp]
      refine w_b1s (in_X9 ⟨by omega, by omega⟩ ⟨by omega, by omega⟩ ⟨by omega, by omega⟩) ?_
      refine w_B (fun d => ?_) (fun d => ?_)
      · exact w_g0 (w_s (b01_f (by rw [dgt, e]; omega)).symm)
      · exact w_g1 (w_s (b01_t (by rw [dgt, e]; omega)).symm)
    · have e := sgn_out (s := s) (show h ≤ p by omega)
      exact w_g0 (w_s (b01_f (by rw [dgt, e]; omega)).symm)
  obtain ⟨r, e1, e2⟩ := w
  rw [e1, e2]
theorem w_dig {α : Type} {K : α → Prop} {h p : Nat} {s t : Nat → Int} {q : Int} {a b : Option α} (T : TX h s t) (hp : p < 2147483648) (e : q = p) (h1 : ¬ dgt h s p → wp a K) (h2 : dgt h s p → wp b K) : wp (bd1 (f_X9_isDigit h q t) (fun r => if eqI r 0 = true then a else b)) K := by
  subst e
  exact w_b1s (isDigit_X9 T hp) (w_B h1 h2)
theorem digit_X9 {h p : Nat} {s t : Nat → Int} (T : TX h s t) (c : p < h) : f_X9_digit p t = some (s p - 48, ((p + 1 : Nat) : Int)) := by
  have h1 := T.1
  have e : ((p : Int) + 1 - 1) = (p : Int) := by omega
  have w : wp (f_X9_digit p t) (fun r => r = (s p - 48, ((p + 1 : Nat) : Int))) := by
    unfold f_X9_digit
    refine w_lz ?_
    refine w_gi (by omega) ?_
    rw [e, ix_nat (by omega)]
    exact w_s (by rw [(T.2 p c).1]; rfl)
  obtain ⟨r, e1, e2⟩ := w
  rw [e1, e2]
theorem takes_X9 {h p : Nat} {v : Int} {s t : Nat → Int} (T : TX h s t) (hp : p ≤ h) (hv : 0 ≤ v ∧ v < 128) : (sgn h s p = v ∧ f_X9_takes v h p t = some (1, ((p + 1 : Nat) : Int))) ∨ (sgn h s p ≠ v ∧ f_X9_takes v h p t = some (0, (p : Int))) := by
  have h1 := T.1
  have w : wp (f_X9_takes v h p t) (fun r => (sgn h s p = v ∧ r = (1, ((p + 1 : Nat) : Int))) ∨ (sgn h s p ≠ v ∧ r = (0, (p : Int)))) := by
    unfold f_X9_takes
    refine w_j ?_
    refine w_eq (by omega) (fun c => ?_) (fun c => ?_)
    · have e := sgn_out (s := s) (show h ≤ p by omega)
      exact w_s (Or.inr ⟨by omega, rfl⟩)
    · have e := sgn_in (s := s) (show p < h by omega)
      have r := T.2 p (by omega)
      refine w_gi (by omega) ?_
      rw [ix_nat (by omega)]
      refine w_eq (by omega) (fun d => ?_) (fun d => ?_)
      · exact w_s (Or.inl ⟨by omega, rfl⟩)
      · exact w_s (Or.inr ⟨by omega, rfl⟩)
  obtain ⟨r, e1, e2⟩ := w
  rw [e1]
  rcases e2 with ⟨a, b⟩ | ⟨a, b⟩
  · exact Or.inl ⟨a, by rw [b]⟩
  · exact Or.inr ⟨a, by rw [b]⟩
/-- the number of n digits from p on -/
def NV (s : Nat → Int) (p : Nat) : Nat → Int
  | 0 => 0
  | n + 1 => 10 * NV s p n + (s (p + n) - 48)
theorem readNumber_X9 {h p c : Nat} {s t nu : Nat → Int} (T : TX h s t) (hp : p ≤ h) (hc : c < 12) : wp (f_X9_readNumber h p c t nu) (fun o => ∃ n, DN h s p 2 n ∧ o.2.1 = ((p + n : Nat) : Int) ∧ ((n < 1 ∧ o.1 = 0 ∧ o.2.2 = nu) ∨ (1 ≤ n ∧ o.1 = 1 ∧ o.2.2 = up nu c (NV s p n)))) := by
  have h1 := T.1
  unfold f_X9_readNumber
  refine w_dig T (by omega) rfl (fun d => ?_) (fun d => ?_)
  · exact w_s ⟨0, ⟨by omega, fun j hj => absurd hj (Nat.not_lt_zero _), Or.inr d⟩, rfl, Or.inl ⟨by omega, rfl, rfl⟩⟩
  have p1 := dgt_in d
  refine w_b2s (digit_X9 T p1) ?_
  have d1 : ∀ j, j < 1 → dgt h s (p + j) := fun j hj => by
    have e : j = 0 := by omega
    rw [e]
    exact d
  have r1 := T.2 p p1
  refine w_b1s (isDigit_X9 T (by omega)) ?_
  refine w_j ?_
  refine w_B (fun f => ?_) (fun f => ?_)
  · refine w_gi (by omega) ?_
    rw [ix_nat (by omega)]
    exact w_s ⟨1, ⟨by omega, d1, Or.inr f⟩, rfl, Or.inr ⟨by omega, rfl, by
      show up nu c (s p - 48) = up nu c (10 * 0 + (s (p + 0) - 48))
      congr 1
      show s p - 48 = 10 * 0 + (s p - 48)
      omega⟩⟩
  · refine w_b2s (digit_X9 T (dgt_in f)) ?_
    refine w_gi (by omega) ?_
    rw [ix_nat (by omega)]
    exact w_s ⟨2, ⟨by omega, fa_s d1 f, Or.inl rfl⟩, rfl, Or.inr ⟨by omega, rfl, by
      show up nu c (10 * (s p - 48) + (s (p + 1) - 48)) = up nu c (10 * (10 * 0 + (s (p + 0) - 48)) + (s (p + 1) - 48))
      congr 1
      show 10 * (s p - 48) + (s (p + 1) - 48) = 10 * (10 * 0 + (s p - 48)) + (s (p + 1) - 48)
      omega⟩⟩
