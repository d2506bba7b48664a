/-! PURE PART: text, one sign -/
/-- the sign at k, -1 behind the text -/
def sgn (h : Nat) (s : Nat → Int) (k : Nat) : Int := if k < h then s k else -1
abbrev dgt (h : Nat) (s : Nat → Int) (k : Nat) : Prop := 48 ≤ sgn h s k ∧ sgn h s k ≤ 57
/-- the text is held alike -/
def TX (h : Nat) (s t : Nat → Int) : Prop := h ≤ 100 ∧ ∀ k : Nat, k < h → s k = t k ∧ 0 ≤ s k ∧ s k ≤ 127
theorem sgn_r {h : Nat} {s t : Nat → Int} (T : TX h s t) (k : Nat) : -1 ≤ sgn h s k ∧ sgn h s k ≤ 127 := by
  unfold sgn
  by_cases c : k < h
  · rw [if_pos c]
    have := T.2 k c
    omega
  · rw [if_neg c]
    omega
theorem sgn_in {h : Nat} {s : Nat → Int} {k : Nat} (c : k < h) : sgn h s k = s k := if_pos c
theorem sgn_out {h : Nat} {s : Nat → Int} {k : Nat} (c : h ≤ k) : sgn h s k = -1 := if_neg (by omega)
theorem dgt_in {h : Nat} {s : Nat → Int} {k : Nat} (d : dgt h s k) : k < h := by
  by_cases c : k < h
  · exact c
  · have e := sgn_out (s := s) (show h ≤ k by omega)
    rw [dgt, e] at d
    omega
theorem signAt_X6 {h p : Nat} {s t : Nat → Int} (T : TX h s t) (hp : p < 2147483648) : f_X6_signAt p h s = some (sgn h s p) := by
  have h1 := T.1
  have w : wp (f_X6_signAt p h s) (fun r => r = sgn h s p) := by
    unfold f_X6_signAt
    refine w_j ?_
    refine w_j ?_
    refine w_ltF (by omega) ?_
    refine w_lt (by omega) (fun c => ?_) (fun c => ?_)
    · refine w_gi (by omega) ?_
      rw [ix_nat hp]
      exact w_s (sgn_in (by omega)).symm
    · exact w_s (sgn_out (by omega)).symm
  obtain ⟨r, e1, e2⟩ := w
  rw [e1, e2]
theorem isDigit_X6 {v : Int} (h : -1 ≤ v ∧ v ≤ 127) : f_X6_isDigit v = some (b01 (48 ≤ v ∧ v ≤ 57)) := by
  have w : wp (f_X6_isDigit v) (fun r => r = b01 (48 ≤ v ∧ v ≤ 57)) := by
    unfold f_X6_isDigit
    refine w_j ?_
    refine w_j ?_
    refine w_lt (by omega) (fun c => ?_) (fun c => ?_)
    · exact w_g0 (w_s (b01_f (by omega)).symm)
    refine w_lt (by omega) (fun d => ?_) (fun d => ?_)
    · exact w_g0 (w_s (b01_f (by omega)).symm)
    · exact w_g1 (w_s (b01_t (by omega)).symm)
  obtain ⟨r, e1, e2⟩ := w
  rw [e1, e2]
/-- the digits from p on, at most m of them -/
def DN (h : Nat) (s : Nat → Int) (p m n : Nat) : Prop := n ≤ m ∧ (∀ j, j < n → dgt h s (p + j)) ∧ (n = m ∨ ¬ dgt h s (p + n))
theorem pastDigits_X6 {h p lo hi : Nat} {s t : Nat → Int} (T : TX h s t) (hp : p < 1000) (hh : hi ≤ 4) (hl : lo ≤ hi) : wp (f_X6_pastDigits p lo hi h s) (fun r => ∃ n, DN h s p hi n ∧ (n < lo ∧ r = -1 - ((p + n : Nat) : Int) ∨ lo ≤ n ∧ r = ((p + n : Nat) : Int))) := by
  unfold f_X6_pastDigits
  have last : ∀ n : Nat, DN h s p hi n → wp (jn (fun (s0_49 : Int) => some s0_49) (fun (k49 : Int → Option Int) => if ltI (n : Int) (lo : Int) = true then (bd1 (f_X6_turned ((p : Int) + n)) (fun r39 => k49 r39)) else (k49 ((p : Int) + n)))) (fun r => ∃ n, DN h s p hi n ∧ (n < lo ∧ r = -1 - ((p + n : Nat) : Int) ∨ lo ≤ n ∧ r = ((p + n : Nat) : Int))) := fun n hn => by
    have := hn.1
    refine w_j ?_
    refine w_lt (by omega) (fun c => ?_) (fun c => ?_)
    · exact w_s ⟨n, hn, Or.inl ⟨by omega, by omega⟩⟩
    · exact w_s ⟨n, hn, Or.inr ⟨by omega, by omega⟩⟩
  refine w_q1 (fun k v => v = (k : Int) ∧ ∀ j, j < k → dgt h s (p + j)) hi 0 ⟨rfl, fun j hj => absurd hj (Nat.not_lt_zero _)⟩ (by omega) (by omega) (fun k hk v hI nx hn => ?_) (fun v hI nx => ?_)
  · obtain ⟨rfl, t1⟩ := hI
    refine w_j ?_
    refine w_ltT (by omega) ?_
    have e : (p : Int) + (k : Int) = ((p + k : Nat) : Int) := by omega
    refine w_b1s (by rw [e]; exact signAt_X6 T (by omega)) ?_
    refine w_b1s (isDigit_X6 (sgn_r T _)) ?_
    refine w_B (fun c => ?_) (fun c => ?_)
    · exact last k ⟨by omega, t1, Or.inr c⟩
    · exact hn _ ⟨by omega, fa_s t1 c⟩
  · obtain ⟨rfl, t1⟩ := hI
    refine w_j ?_
    refine w_ltF (by omega) ?_
    exact last hi ⟨by omega, t1, Or.inl rfl⟩
theorem DN_u {h p m n n' : Nat} {s : Nat → Int} (a : DN h s p m n) (b : DN h s p m n') : n = n' := by
  obtain ⟨a1, a2, a3⟩ := a
  obtain ⟨b1, b2, b3⟩ := b
  by_cases c : n < n'
  · exact absurd (b2 n c) (by rcases a3 with z | z; omega; exact z)
  by_cases d : n' < n
  · exact absurd (a2 n' d) (by rcases b3 with z | z; omega; exact z)
  omega
