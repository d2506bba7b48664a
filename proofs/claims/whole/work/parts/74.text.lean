/-! PURE PART: numbers in the class's text -/
theorem digitAt_X6 {h p : Nat} {s t : Nat → Int} (T : TX h s t) (d : dgt h s p) : f_X6_digitAt p h s = some (s p - 48) := by
  have h1 := T.1
  have c := dgt_in d
  have e := sgn_in (s := s) c
  have w : wp (f_X6_digitAt p h s) (fun r => r = s p - 48) := by
    unfold f_X6_digitAt
    refine w_b1s (signAt_X6 T (by omega)) ?_
    refine w_b1s (isDigit_X6 (sgn_r T _)) ?_
    refine w_j ?_
    refine w_B (fun f => absurd d f) (fun f => ?_)
    exact w_s (by rw [e])
  obtain ⟨r, e1, e2⟩ := w
  rw [e1, e2]
theorem numberAt_X6 {h p m n : Nat} {s t : Nat → Int} {q : Int} (T : TX h s t) (H : DN h s p m n) (m5 : m ≤ 5) (hq : q = ((p + n : Nat) : Int)) (hp : p < 1000) : f_X6_numberAt p q h s = some (NV s p n) := by
  subst hq
  have h0 := H.1
  have w : wp (f_X6_numberAt p ((p + n : Nat) : Int) h s) (fun r => r = NV s p n) := by
    unfold f_X6_numberAt
    refine w_q2 (fun k u v => v = ((p + k : Nat) : Int) ∧ u = NV s p k) n 0 ⟨rfl, rfl⟩ (by omega) (by omega) (fun k hk u v hI nx hn => ?_) (fun u v hI nx => ?_)
    · obtain ⟨rfl, rfl⟩ := hI
      refine w_ltT (by omega) ?_
      refine w_b1s (digitAt_X6 T (H.2.1 k hk)) ?_
      refine w_lz ?_
      exact hn _ _ ⟨by omega, rfl⟩
    · obtain ⟨rfl, rfl⟩ := hI
      refine w_ltF (by omega) ?_
      exact w_s rfl
  obtain ⟨r, e1, e2⟩ := w
  rw [e1, e2]
theorem NV_r {h p n : Nat} {s t : Nat → Int} (T : TX h s t) (H : DN h s p 2 n) : 0 ≤ NV s p n ∧ NV s p n ≤ 99 := by
  have d : ∀ j, j < n → 48 ≤ s (p + j) ∧ s (p + j) ≤ 57 := fun j hj => by
    have z := H.2.1 j hj
    rw [← sgn_in (s := s) (dgt_in z)]
    exact z
  have h0 := H.1
  have e : n = 0 ∨ n = 1 ∨ n = 2 := by omega
  rcases e with rfl | rfl | rfl
  · exact ⟨Int.le_refl 0, (by decide : (0 : Int) ≤ 99)⟩
  · have d0 := d 0 (by omega)
    show 0 ≤ 10 * 0 + (s (p + 0) - 48) ∧ 10 * 0 + (s (p + 0) - 48) ≤ 99
    omega
  · have d0 := d 0 (by omega)
    have d1 := d 1 (by omega)
    show 0 ≤ 10 * (10 * 0 + (s (p + 0) - 48)) + (s (p + 1) - 48) ∧ 10 * (10 * 0 + (s (p + 0) - 48)) + (s (p + 1) - 48) ≤ 99
    omega
theorem w_apart {h p n m : Nat} {s t : Nat → Int} {sz : Int} {g : Nat → Int} {K : Int × (Nat → Int) → Prop} (T : TX h s t) (H : DN h s p 4 n) (h32 : sgn h s (p + n) = 32) (M : DN h s (p + n + 1) 2 m) (m1 : 1 ≤ m) (hp : p < 900) (k : wp (bd2 (f_X2_setApart (BM s p n) (NV s (p + n + 1) m) sz g) (fun r54 g54 => grd (isB r54) (some (r54, g54)))) K) : wp (f_X6_doSetApart p ((p + n + 1 + m : Nat) : Int) h s sz g) K := by
  have h0 := H.1
  have h1 := M.1
  unfold f_X6_doSetApart
  refine w_q2 (fun k u v => v = ((p + k : Nat) : Int) ∧ u = BM s p k) n 0 ⟨rfl, rfl⟩ (by omega) (by omega) (fun k hk u v hI nx hn => ?_) (fun u v hI nx => ?_)
  · obtain ⟨rfl, rfl⟩ := hI
    have dk := H.2.1 k hk
    have dk' : 48 ≤ sgn h s (p + k) ∧ sgn h s (p + k) ≤ 57 := dk
    refine w_j ?_
    refine w_ltT (by omega) ?_
    refine w_b1s (signAt_X6 T (by omega)) ?_
    refine w_eqF (by omega) ?_
    refine w_b1s (digitAt_X6 T dk) ?_
    refine w_lz ?_
    exact hn _ _ ⟨by omega, rfl⟩
  · obtain ⟨rfl, rfl⟩ := hI
    refine w_j ?_
    refine w_ltT (by omega) ?_
    refine w_b1s (signAt_X6 T (by omega)) ?_
    refine w_eqT h32 ?_
    have e : ((p + n : Nat) : Int) + 1 = ((p + n + 1 : Nat) : Int) := by omega
    rw [e]
    exact w_b1s (numberAt_X6 T M (by omega) rfl (by omega)) k
