/-! PURE PART: numbers in the class's text -/
theorem digitAt_X6 {h p : Nat} {s t : Nat → Int} (T : TX h s t) (d : dgt h s p) : f_X6_digitAt p h s = some (s p - 48) := by
  have h1 := T.1
  have c := dgt_in d
  have e := sgn_in (s := s) c
  have w : wp (f_X6_digitAt p h s) (fun r => r = s p - 48) := by
    unfold f_X6_digitAt
    refine w_b1s (signAt_X6 T (by omega)) ?_
    refine w_b1s (isDigit_X6 (sgn_r T _)) ?_
    refine w_j ?_
    refine w_B (fun f => absurd d f) (fun f => ?_)
    exact w_s (by rw [e])
  obtain ⟨r, e1, e2⟩ := w
  rw [e1, e2]
theorem numberAt_X6 {h p m n : Nat} {s t : Nat → Int} {q : Int} (T : TX h s t) (H : DN h s p m n) (m5 : m ≤ 5) (hq : q = ((p + n : Nat) : Int)) (hp : p < 1000) : f_X6_numberAt p q h s = some (NV s p n) := by
  subst hq
  have h0 := H.1
  have w : wp (f_X6_numberAt p ((p + n : Nat) : Int) h s) (fun r => r = NV s p n) := by
    unfold f_X6_numberAt
    refine w_q2 (fun k u v => v = ((p + k : Nat) : Int) ∧ u = NV s p k) n 0 ⟨rfl, rfl⟩ (by omega) (by omega) (fun k hk u v hI nx hn => ?_) (fun u v hI nx => ?_)
    · obtain ⟨rfl, rfl⟩ := hI
      refine w_ltT (by omega) ?_
      refine w_b1s (digitAt_X6 T (H.2.1 k hk)) ?_
      refine w_lz ?_
      exact hn _ _ ⟨by omega, rfl⟩
    · obtain ⟨rfl, rfl⟩ := hI
      refine w_ltF (by omega) ?_
      exact w_s rfl
  obtain ⟨r, e1, e2⟩ := w
  rw [e1, e2]
