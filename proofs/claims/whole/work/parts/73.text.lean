/-! PURE PART: one clause in the reference -/
/-- the members that n digits name -/
def BM (s : Nat → Int) (p : Nat) : Nat → Int
  | 0 => 0
  | n + 1 => orI (BM s p n) (shlI 1 (s (p + n) - 48))
/-- what is held of the clause at p, as the c-th -/
def RCl (h : Nat) (s : Nat → Int) (p c : Nat) (cl to by' nu : Nat → Int) : Prop :=
  cl c = sgn h s p ∧ ((sgn h s p = 100 ∧ dgt h s (p + 1) ∧ dgt h s (p + 2) ∧ to c = s (p + 1) - 48 ∧ by' c = s (p + 2) - 48 ∧ ∃ n, DN h s (p + 3) 2 n ∧ 1 ≤ n ∧ nu c = NV s (p + 3) n) ∨ sgn h s p = 104 ∨ (sgn h s p = 109 ∧ ∃ n, DN h s (p + 1) 2 n ∧ 1 ≤ n ∧ nu c = NV s (p + 1) n) ∨ (sgn h s p = 110 ∧ dgt h s (p + 1) ∧ to c = s (p + 1) - 48) ∨ (sgn h s p = 115 ∧ ∃ n, DN h s (p + 1) 4 n ∧ 1 ≤ n ∧ to c = BM s (p + 1) n ∧ ∃ m, DN h s (p + 1 + n + 1) 2 m ∧ 1 ≤ m ∧ nu c = NV s (p + 1 + n + 1) m))
/-- but for the c-th as before -/
def KP (c : Nat) (f g : Nat → Int) : Prop := ∀ k, k ≠ c → f k = g k
theorem KP_r {c : Nat} {f : Nat → Int} : KP c f f := fun _ _ => rfl
theorem KP_u {c : Nat} {v : Int} {f : Nat → Int} : KP c (up f c v) f := fun k hk => if_neg hk
def ROl (h : Nat) (s : Nat → Int) (p c : Nat) (cl to by' nu : Nat → Int) (o : Int × Int × (Nat → Int) × (Nat → Int) × (Nat → Int) × (Nat → Int)) : Prop := ∃ e : Nat, e ≤ 200 ∧ o.2.1 = (e : Int) ∧ KP c o.2.2.1 cl ∧ KP c o.2.2.2.1 to ∧ KP c o.2.2.2.2.1 by' ∧ KP c o.2.2.2.2.2 nu ∧ ((o.1 = 0 ∧ PC h s p (-1 - (e : Int))) ∨ (o.1 = 1 ∧ PC h s p (e : Int) ∧ e ≤ h ∧ RCl h s p c o.2.2.1 o.2.2.2.1 o.2.2.2.2.1 o.2.2.2.2.2))
theorem up_c {c : Nat} {v : Int} {f : Nat → Int} : up f c v c = v := if_pos rfl
theorem DN_e {h p m n : Nat} {s : Nat → Int} (H : DN h s p m n) (h1 : 1 ≤ n) : p + n ≤ h := by
  have := dgt_in (H.2.1 (n - 1) (by omega))
  omega
theorem or_0 {d : Int} (h : 0 ≤ d ∧ d ≤ 9) : orI 0 (shlI 1 d) = shlI 1 d := by
  have e : d = 0 ∨ d = 1 ∨ d = 2 ∨ d = 3 ∨ d = 4 ∨ d = 5 ∨ d = 6 ∨ d = 7 ∨ d = 8 ∨ d = 9 := by omega
  rcases e with rfl | rfl | rfl | rfl | rfl | rfl | rfl | rfl | rfl | rfl <;> decide
theorem readClause_X9 {h p c : Nat} {s t cl to by' nu : Nat → Int} (T : TX h s t) (hp : p ≤ h) (hc : c < 12) : wp (f_X9_readClause h p c t cl to by' nu) (ROl h s p c cl to by' nu) := by
  have h1 := T.1
  have ic : ix (c : Int) = c := ix_nat (by omega)
  unfold f_X9_readClause
  simp only [ic]
  refine w_j ?_
  refine w_lt (by omega) (fun d => ?_) (fun d => ?_)
  · have p1 : p < h := by omega
    have e := sgn_in (s := s) p1
    have r := T.2 p p1
    refine w_gi (by omega) ?_
    rw [ix_nat (by omega)]
    have ev : t p = sgn h s p := by rw [e, r.1]
    rw [ev]
    refine w_j ?_
    by_cases c1 : sgn h s p = 104
    · refine w_eqF (by omega) ?_
      refine w_eqF (by omega) ?_
      refine w_eqF (by omega) ?_
      refine w_eqF (by omega) ?_
      refine w_eqT (by omega) ?_
      refine w_lz ?_
      refine w_gi (by omega) ?_
      refine w_eqT (by omega) ?_
      exact w_s ⟨p + 1, by omega, rfl, KP_u, KP_r, KP_r, KP_r, Or.inr ⟨rfl, Or.inr (Or.inl ⟨c1, rfl⟩), by omega, up_c, Or.inr (Or.inl c1)⟩⟩
    by_cases c2 : sgn h s p = 109
    · refine w_eqF (by omega) ?_
      refine w_eqF (by omega) ?_
      refine w_eqF (by omega) ?_
      refine w_eqT (by omega) ?_
      refine w_l (fun x hx => ?_)
      have hx' : x = ((p + 1 : Nat) : Int) := by omega
      subst hx'
      refine w_gi (by omega) ?_
      refine w_eqF (by omega) ?_
      refine w_eqT (by omega) ?_
      refine w_b3 (readNumber_X9 T (show p + 1 ≤ h by omega) hc) (fun a1 a2 a3 ha => ?_)
      obtain ⟨n, n1, n2, n3⟩ := ha
      have n4 := n1.1
      rcases n3 with ⟨n5, n6, n7⟩ | ⟨n5, n6, n7⟩
      · have n6' : a1 = 0 := n6
        subst n6'
        refine w_g0 (w_s ⟨p + 1 + n, by omega, n2, KP_u, KP_r, KP_r, ?_, Or.inl ⟨rfl, Or.inr (Or.inr (Or.inl ⟨c2, n, n1, Or.inl ⟨n5, rfl⟩⟩))⟩⟩)
        show KP c a3 nu
        rw [show a3 = nu from n7]
        exact KP_r
      · have n6' : a1 = 1 := n6
        subst n6'
        have n7' : a3 = up nu c (NV s (p + 1) n) := n7
        subst n7'
        exact w_g1 (w_s ⟨p + 1 + n, by omega, n2, KP_u, KP_r, KP_r, KP_u, Or.inr ⟨rfl, Or.inr (Or.inr (Or.inl ⟨c2, n, n1, Or.inr ⟨n5, rfl⟩⟩)), DN_e n1 n5, up_c, Or.inr (Or.inr (Or.inl ⟨c2, n, n1, n5, up_c⟩))⟩⟩)
    by_cases c3 : sgn h s p = 110
    · refine w_eqT (by omega) ?_
      refine w_l (fun x hx => ?_)
      have hx' : x = ((p + 1 : Nat) : Int) := by omega
      subst hx'
      refine w_gi (by omega) ?_
      refine w_eqF (by omega) ?_
      refine w_eqF (by omega) ?_
      refine w_dig T (by omega) rfl (fun f => ?_) (fun f => ?_)
      · exact w_s ⟨p + 1, by omega, rfl, KP_u, KP_r, KP_r, KP_r, Or.inl ⟨rfl, Or.inr (Or.inr (Or.inr (Or.inl ⟨c3, 0, DN_0 f, Or.inl ⟨by omega, rfl⟩⟩)))⟩⟩
      · refine w_b2s (digit_X9 T (dgt_in f)) ?_
        refine w_gi (by omega) ?_
        refine w_eqT (by omega) ?_
        have n1 : DN h s (p + 1) 1 1 := DN_s (m := 0) (n := 0) f ⟨by omega, fun j hj => absurd hj (Nat.not_lt_zero _), Or.inl rfl⟩
        exact w_s ⟨p + 1 + 1, by omega, rfl, KP_u, KP_u, KP_r, KP_r, Or.inr ⟨rfl, Or.inr (Or.inr (Or.inr (Or.inl ⟨c3, 1, n1, Or.inr ⟨by omega, rfl⟩⟩))), DN_e n1 (by omega), up_c, Or.inr (Or.inr (Or.inr (Or.inl ⟨c3, f, up_c⟩)))⟩⟩
    by_cases c4 : sgn h s p = 100
    · refine w_eqF (by omega) ?_
      refine w_eqT (by omega) ?_
      refine w_l (fun x hx => ?_)
      have hx' : x = ((p + 1 : Nat) : Int) := by omega
      subst hx'
      refine w_gi (by omega) ?_
      refine w_eqF (by omega) ?_
      refine w_eqF (by omega) ?_
      refine w_dig T (by omega) rfl (fun f => ?_) (fun f => ?_)
      · exact w_s ⟨p + 1, by omega, rfl, KP_u, KP_r, KP_r, KP_r, Or.inl ⟨rfl, Or.inl ⟨c4, 0, DN_0 f, Or.inl ⟨by omega, rfl⟩⟩⟩⟩
      refine w_b2s (digit_X9 T (dgt_in f)) ?_
      refine w_gi (by omega) ?_
      refine w_eqF (by omega) ?_
      refine w_eqT (by omega) ?_
      have f1 := dgt_in f
      refine w_dig T (by omega) rfl (fun f2 => ?_) (fun f2 => ?_)
      · exact w_s ⟨p + 1 + 1, by omega, rfl, KP_u, KP_u, KP_r, KP_r, Or.inl ⟨rfl, Or.inl ⟨c4, 1, DN_s f (DN_0 f2), Or.inl ⟨by omega, rfl⟩⟩⟩⟩
      refine w_b2s (digit_X9 T (dgt_in f2)) ?_
      refine w_gi (by omega) ?_
      have f3 := dgt_in f2
      refine w_b3 (readNumber_X9 T (show p + 1 + 1 + 1 ≤ h by omega) hc) (fun a1 a2 a3 ha => ?_)
      obtain ⟨n, n1, n2, n3⟩ := ha
      have n4 := n1.1
      have nn : DN h s (p + 1) 4 (n + 2) := DN_s f (DN_s f2 n1)
      have n2' : a2 = ((p + 1 + (n + 2) : Nat) : Int) := by
        have z : a2 = ((p + 1 + 1 + 1 + n : Nat) : Int) := n2
        omega
      rcases n3 with ⟨n5, n6, n7⟩ | ⟨n5, n6, n7⟩
      · have n6' : a1 = 0 := n6
        subst n6'
        have n7' : a3 = nu := n7
        subst n7'
        exact w_g0 (w_s ⟨p + 1 + (n + 2), by omega, n2', KP_u, KP_u, KP_u, KP_r, Or.inl ⟨rfl, Or.inl ⟨c4, n + 2, nn, Or.inl ⟨by omega, rfl⟩⟩⟩⟩)
      · have n6' : a1 = 1 := n6
        subst n6'
        have n7' : a3 = up nu c (NV s (p + 1 + 1 + 1) n) := n7
        subst n7'
        exact w_g1 (w_s ⟨p + 1 + (n + 2), by omega, n2', KP_u, KP_u, KP_u, KP_u, Or.inr ⟨rfl, Or.inl ⟨c4, n + 2, nn, Or.inr ⟨by omega, rfl⟩⟩, DN_e nn (by omega), up_c, Or.inl ⟨c4, f, f2, up_c, up_c, n, n1, n5, up_c⟩⟩⟩)
    by_cases c5 : sgn h s p = 115
    · refine w_eqF (by omega) ?_
      refine w_eqF (by omega) ?_
      refine w_eqT (by omega) ?_
      refine w_l (fun x hx => ?_)
      have hx' : x = ((p + 1 : Nat) : Int) := by omega
      subst hx'
      refine w_gi (by omega) ?_
      refine w_eqF (by omega) ?_
      refine w_eqF (by omega) ?_
      refine w_dig T (by omega) rfl (fun f => ?_) (fun f => ?_)
      · exact w_s ⟨p + 1, by omega, rfl, KP_u, KP_r, KP_r, KP_r, Or.inl ⟨rfl, Or.inr (Or.inr (Or.inr (Or.inr (Or.inl ⟨c5, 0, DN_0 f, Or.inl ⟨by omega, rfl⟩⟩))))⟩⟩
      refine w_b2s (digit_X9 T (dgt_in f)) ?_
      refine w_gi (by omega) ?_
      refine w_eqF (by omega) ?_
      refine w_eqF (by omega) ?_
      refine w_gi (by omega) ?_
      refine w_lz ?_
      refine w_gi (by omega) ?_
      have f1 := dgt_in f
      have f0 : 48 ≤ s (p + 1) ∧ s (p + 1) ≤ 57 := by
        rw [← sgn_in (s := s) f1]
        exact f
      have b1 : BM s (p + 1) 1 = shlI 1 (s (p + 1) - 48) := or_0 (d := s (p + 1) - 48) (by omega)
      refine w_q3 (fun k v pl tol => v = (k : Int) ∧ pl = ((p + 1 + (k + 1) : Nat) : Int) ∧ tol c = BM s (p + 1) (k + 1) ∧ KP c tol to ∧ ∀ j, j < k + 1 → dgt h s (p + 1 + j)) 3 0 ⟨rfl, rfl, ?_, ?_, ?_⟩ (by omega) (by omega) (fun k hk v pl tol hI nx hn => ?_) (fun v pl tol hI nx => ?_)
      · show up _ c _ c = _
        rw [up_c, up_c, b1]
      · intro k hk
        show up _ c _ k = _
        unfold up
        rw [if_neg hk, if_neg hk]
      · intro j hj
        rw [show p + 1 + j = p + 1 by omega]
        exact f
      · obtain ⟨rfl, rfl, tc, tk, td⟩ := hI
        refine w_j ?_
        refine w_ltT (by omega) ?_
        refine w_dig T (by omega) rfl (fun ff => ?_) (fun ff => ?_)
        · have hD : DN h s (p + 1) 4 (k + 1) := ⟨by omega, td, Or.inr ff⟩
          have q1 : p + 1 + (k + 1) ≤ h := DN_e hD (by omega)
          rcases takes_X9 (v := 32) T q1 (by omega) with ⟨g1, g2⟩ | ⟨g1, g2⟩
          · refine w_b2s g2 ?_
            refine w_j ?_
            refine w_j ?_
            refine w_eqF (by omega) ?_
            have q2 : p + 1 + (k + 1) < h := by
              by_cases z : p + 1 + (k + 1) < h
              · exact z
              · have := sgn_out (s := s) (show h ≤ p + 1 + (k + 1) by omega)
                omega
            refine w_b3 (readNumber_X9 T (show p + 1 + (k + 1) + 1 ≤ h by omega) hc) (fun a1 a2 a3 ha => ?_)
            obtain ⟨m, m1, m2, m3⟩ := ha
            have m4 := m1.1
            rcases m3 with ⟨m5, m6, m7⟩ | ⟨m5, m6, m7⟩
            · have m6' : a1 = 0 := m6
              subst m6'
              have m7' : a3 = nu := m7
              subst m7'
              refine w_eqT rfl ?_
              exact w_g0 (w_s ⟨p + 1 + (k + 1) + 1 + m, by omega, m2, KP_u, tk, KP_r, KP_r, Or.inl ⟨rfl, Or.inr (Or.inr (Or.inr (Or.inr (Or.inl ⟨c5, (k + 1), hD, Or.inr (Or.inr ⟨by omega, g1, m, m1, Or.inl ⟨m5, rfl⟩⟩)⟩))))⟩⟩)
            · have m6' : a1 = 1 := m6
              subst m6'
              have m7' : a3 = up nu c (NV s (p + 1 + (k + 1) + 1) m) := m7
              subst m7'
              refine w_eqF (by omega) ?_
              exact w_g1 (w_s ⟨p + 1 + (k + 1) + 1 + m, by omega, m2, KP_u, tk, KP_r, KP_u, Or.inr ⟨rfl, Or.inr (Or.inr (Or.inr (Or.inr (Or.inl ⟨c5, (k + 1), hD, Or.inr (Or.inr ⟨by omega, g1, m, m1, Or.inr ⟨m5, rfl⟩⟩)⟩)))), DN_e m1 m5, up_c, Or.inr (Or.inr (Or.inr (Or.inr ⟨c5, (k + 1), hD, by omega, tc, m, m1, m5, up_c⟩)))⟩⟩)
          · refine w_b2s g2 ?_
            refine w_j ?_
            refine w_j ?_
            refine w_eqT rfl ?_
            exact w_g0 (w_s ⟨p + 1 + (k + 1), by omega, rfl, KP_u, tk, KP_r, KP_r, Or.inl ⟨rfl, Or.inr (Or.inr (Or.inr (Or.inr (Or.inl ⟨c5, (k + 1), hD, Or.inr (Or.inl ⟨by omega, g1, rfl⟩)⟩))))⟩⟩)
        · refine w_gi (by omega) ?_
          refine w_b2s (digit_X9 T (dgt_in ff)) ?_
          refine w_lz ?_
          refine w_gi (by omega) ?_
          refine hn _ _ _ ⟨by omega, by omega, ?_, ?_, fa_s td ff⟩
          · show up _ c _ c = _
            rw [up_c, tc]
            rfl
          · intro j hj
            show up _ c _ j = _
            unfold up
            rw [if_neg hj]
            exact tk j hj
      · obtain ⟨rfl, rfl, tc, tk, td⟩ := hI
        refine w_j ?_
        refine w_ltF (by omega) ?_
        have hD : DN h s (p + 1) 4 (3 + 1) := ⟨by omega, td, Or.inl rfl⟩
        have q1 : p + 1 + (3 + 1) ≤ h := DN_e hD (by omega)
        rcases takes_X9 (v := 32) T q1 (by omega) with ⟨g1, g2⟩ | ⟨g1, g2⟩
        · refine w_b2s g2 ?_
          refine w_j ?_
          refine w_j ?_
          refine w_eqF (by omega) ?_
          have q2 : p + 1 + (3 + 1) < h := by
            by_cases z : p + 1 + (3 + 1) < h
            · exact z
            · have := sgn_out (s := s) (show h ≤ p + 1 + (3 + 1) by omega)
              omega
          refine w_b3 (readNumber_X9 T (show p + 1 + (3 + 1) + 1 ≤ h by omega) hc) (fun a1 a2 a3 ha => ?_)
          obtain ⟨m, m1, m2, m3⟩ := ha
          have m4 := m1.1
          rcases m3 with ⟨m5, m6, m7⟩ | ⟨m5, m6, m7⟩
          · have m6' : a1 = 0 := m6
            subst m6'
            have m7' : a3 = nu := m7
            subst m7'
            refine w_eqT rfl ?_
            exact w_g0 (w_s ⟨p + 1 + (3 + 1) + 1 + m, by omega, m2, KP_u, tk, KP_r, KP_r, Or.inl ⟨rfl, Or.inr (Or.inr (Or.inr (Or.inr (Or.inl ⟨c5, (3 + 1), hD, Or.inr (Or.inr ⟨by omega, g1, m, m1, Or.inl ⟨m5, rfl⟩⟩)⟩))))⟩⟩)
          · have m6' : a1 = 1 := m6
            subst m6'
            have m7' : a3 = up nu c (NV s (p + 1 + (3 + 1) + 1) m) := m7
            subst m7'
            refine w_eqF (by omega) ?_
            exact w_g1 (w_s ⟨p + 1 + (3 + 1) + 1 + m, by omega, m2, KP_u, tk, KP_r, KP_u, Or.inr ⟨rfl, Or.inr (Or.inr (Or.inr (Or.inr (Or.inl ⟨c5, (3 + 1), hD, Or.inr (Or.inr ⟨by omega, g1, m, m1, Or.inr ⟨m5, rfl⟩⟩)⟩)))), DN_e m1 m5, up_c, Or.inr (Or.inr (Or.inr (Or.inr ⟨c5, (3 + 1), hD, by omega, tc, m, m1, m5, up_c⟩)))⟩⟩)
        · refine w_b2s g2 ?_
          refine w_j ?_
          refine w_j ?_
          refine w_eqT rfl ?_
          exact w_g0 (w_s ⟨p + 1 + (3 + 1), by omega, rfl, KP_u, tk, KP_r, KP_r, Or.inl ⟨rfl, Or.inr (Or.inr (Or.inr (Or.inr (Or.inl ⟨c5, (3 + 1), hD, Or.inr (Or.inl ⟨by omega, g1, rfl⟩)⟩))))⟩⟩)
    · refine w_eqF (by omega) ?_
      refine w_eqF (by omega) ?_
      refine w_eqF (by omega) ?_
      refine w_eqF (by omega) ?_
      refine w_eqF (by omega) ?_
      exact w_s ⟨p, by omega, rfl, KP_r, KP_r, KP_r, KP_r, Or.inl ⟨rfl, Or.inr (Or.inr (Or.inr (Or.inr (Or.inr ⟨c4, c1, c2, c3, c5, rfl⟩))))⟩⟩
  · have e := sgn_out (s := s) (show h ≤ p by omega)
    refine w_j ?_
    refine w_eqF (by omega) ?_
    refine w_eqF (by omega) ?_
    refine w_eqF (by omega) ?_
    refine w_eqF (by omega) ?_
    refine w_eqF (by omega) ?_
    exact w_s ⟨p, by omega, rfl, KP_r, KP_r, KP_r, KP_r, Or.inl ⟨rfl, Or.inr (Or.inr (Or.inr (Or.inr (Or.inr ⟨by omega, by omega, by omega, by omega, by omega, rfl⟩))))⟩⟩
