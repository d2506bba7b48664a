/-! PURE PART: one clause -/
theorem DN_0 {h p m : Nat} {s : Nat → Int} (d : ¬ dgt h s p) : DN h s p m 0 := ⟨Nat.zero_le _, fun j hj => absurd hj (Nat.not_lt_zero _), Or.inr d⟩
theorem DN_s {h p m n : Nat} {s : Nat → Int} (d : dgt h s p) (H : DN h s (p + 1) m n) : DN h s p (m + 1) (n + 1) := by
  obtain ⟨h1, h2, h3⟩ := H
  refine ⟨by omega, fun j hj => ?_, ?_⟩
  · by_cases c : j = 0
    · rw [c]
      exact d
    · have := h2 (j - 1) (by omega)
      rw [show p + j = p + 1 + (j - 1) by omega]
      exact this
  · rcases h3 with z | z
    · exact Or.inl (by omega)
    · refine Or.inr ?_
      rw [show p + (n + 1) = p + 1 + n by omega]
      exact z
/-- n digits at least lo, else turned -/
def PD (h : Nat) (s : Nat → Int) (p lo hi : Nat) (r : Int) : Prop := ∃ n, DN h s p hi n ∧ (n < lo ∧ r = -1 - ((p + n : Nat) : Int) ∨ lo ≤ n ∧ r = ((p + n : Nat) : Int))
theorem PD_u {h p lo hi : Nat} {s : Nat → Int} {r r' : Int} (a : PD h s p lo hi r) (b : PD h s p lo hi r') : r = r' := by
  obtain ⟨n, a1, a2⟩ := a
  obtain ⟨m, b1, b2⟩ := b
  have := DN_u a1 b1
  omega
/-- where the clause at p ends, or the turned place of its fault -/
def PC (h : Nat) (s : Nat → Int) (p : Nat) (r : Int) : Prop :=
  (sgn h s p = 100 ∧ PD h s (p + 1) 3 4 r) ∨ (sgn h s p = 104 ∧ r = ((p + 1 : Nat) : Int)) ∨ (sgn h s p = 109 ∧ PD h s (p + 1) 1 2 r) ∨ (sgn h s p = 110 ∧ PD h s (p + 1) 1 1 r) ∨
  (sgn h s p = 115 ∧ ∃ n, DN h s (p + 1) 4 n ∧ ((n < 1 ∧ r = -1 - ((p + 1 + n : Nat) : Int)) ∨ (1 ≤ n ∧ sgn h s (p + 1 + n) ≠ 32 ∧ r = -1 - ((p + 1 + n : Nat) : Int)) ∨ (1 ≤ n ∧ sgn h s (p + 1 + n) = 32 ∧ PD h s (p + 1 + n + 1) 1 2 r))) ∨
  (sgn h s p ≠ 100 ∧ sgn h s p ≠ 104 ∧ sgn h s p ≠ 109 ∧ sgn h s p ≠ 110 ∧ sgn h s p ≠ 115 ∧ r = -1 - (p : Int))
theorem PC_u {h p : Nat} {s : Nat → Int} {r r' : Int} (a : PC h s p r) (b : PC h s p r') : r = r' := by
  rcases a with ⟨a1, a⟩ | ⟨a1, a⟩ | ⟨a1, a⟩ | ⟨a1, a⟩ | ⟨a1, a⟩ | ⟨a1, a2, a3, a4, a5, a⟩ <;> rcases b with ⟨b1, b⟩ | ⟨b1, b⟩ | ⟨b1, b⟩ | ⟨b1, b⟩ | ⟨b1, b⟩ | ⟨b1, b2, b3, b4, b5, b⟩ <;> first | omega | exact PD_u a b | skip
  obtain ⟨n, c1, c2⟩ := a
  obtain ⟨m, d1, d2⟩ := b
  have e := DN_u c1 d1
  subst e
  rcases c2 with c | ⟨c3, c4, c⟩ | ⟨c3, c4, c⟩ <;> rcases d2 with d | ⟨d3, d4, d⟩ | ⟨d3, d4, d⟩ <;> first | omega | exact PD_u c d
theorem pastClause_X6 {h p : Nat} {s t : Nat → Int} (T : TX h s t) (hp : p ≤ h) : wp (f_X6_pastClause p h s) (PC h s p) := by
  have h1 := T.1
  unfold f_X6_pastClause
  have pd : ∀ lo hi : Nat, hi ≤ 4 → lo ≤ hi → ∀ q : Nat, q < 1000 → wp (f_X6_pastDigits q lo hi h s) (PD h s q lo hi) := fun lo hi a b q hq => pastDigits_X6 T hq a b
  have e1 : ((p : Int) + 1) = ((p + 1 : Nat) : Int) := by omega
  rw [e1]
  refine w_b1s (signAt_X6 T (by omega)) ?_
  have sr := sgn_r T p
  refine w_eq (by omega) (fun c1 => ?_) (fun c1 => ?_)
  · exact w_b1 (pd 3 4 (by omega) (by omega) (p + 1) (by omega)) (fun r hr => w_s (Or.inl ⟨c1, hr⟩))
  refine w_eq (by omega) (fun c2 => ?_) (fun c2 => ?_)
  · exact w_s (Or.inr (Or.inl ⟨c2, rfl⟩))
  refine w_eq (by omega) (fun c3 => ?_) (fun c3 => ?_)
  · exact w_b1 (pd 1 2 (by omega) (by omega) (p + 1) (by omega)) (fun r hr => w_s (Or.inr (Or.inr (Or.inl ⟨c3, hr⟩))))
  refine w_eq (by omega) (fun c4 => ?_) (fun c4 => ?_)
  · exact w_b1 (pd 1 1 (by omega) (by omega) (p + 1) (by omega)) (fun r hr => w_s (Or.inr (Or.inr (Or.inr (Or.inl ⟨c4, hr⟩)))))
  refine w_eq (by omega) (fun c5 => ?_) (fun c5 => ?_)
  · have k : wp (f_X6_pastSetApart ((p + 1 : Nat) : Int) h s) (fun r => ∃ n, DN h s (p + 1) 4 n ∧ ((n < 1 ∧ r = -1 - ((p + 1 + n : Nat) : Int)) ∨ (1 ≤ n ∧ sgn h s (p + 1 + n) ≠ 32 ∧ r = -1 - ((p + 1 + n : Nat) : Int)) ∨ (1 ≤ n ∧ sgn h s (p + 1 + n) = 32 ∧ PD h s (p + 1 + n + 1) 1 2 r))) := by
      unfold f_X6_pastSetApart
      refine w_b1 (pd 1 4 (by omega) (by omega) (p + 1) (by omega)) (fun r hr => ?_)
      obtain ⟨n, n1, n2⟩ := hr
      have n3 := n1.1
      rcases n2 with ⟨n2, rfl⟩ | ⟨n2, rfl⟩
      · exact w_ltT (by omega) (w_s ⟨n, n1, Or.inl ⟨n2, rfl⟩⟩)
      · refine w_ltF (by omega) ?_
        have e2 : (((p + 1 + n : Nat) : Int) + 1) = ((p + 1 + n + 1 : Nat) : Int) := by omega
        rw [e2]
        refine w_b1s (signAt_X6 T (by omega)) ?_
        have sr2 := sgn_r T (p + 1 + n)
        refine w_j ?_
        refine w_eq (by omega) (fun d => ?_) (fun d => ?_)
        · exact w_b1 (pd 1 2 (by omega) (by omega) (p + 1 + n + 1) (by omega)) (fun r hr => w_s ⟨n, n1, Or.inr (Or.inr ⟨n2, d, hr⟩)⟩)
        · exact w_s ⟨n, n1, Or.inr (Or.inl ⟨n2, d, rfl⟩)⟩
    exact w_b1 k (fun r hr => w_s (Or.inr (Or.inr (Or.inr (Or.inr (Or.inl ⟨c5, hr⟩))))))
  · exact w_s (Or.inr (Or.inr (Or.inr (Or.inr (Or.inr ⟨c1, c2, c3, c4, c5, rfl⟩)))))
