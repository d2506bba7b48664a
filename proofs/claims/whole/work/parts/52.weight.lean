/-! PURE PART: weights, the reference's; alike -/
theorem isIn_X9 {s x : Nat} {e : Int} (hs : s < 32) (hx : x < 5) (he : e = 0 ∨ e = 1) : wp (f_X9_isIn s x e) (fun r => bI r ((bq s x : Int) = e)) := by
  unfold f_X9_isIn
  refine w_j ?_
  refine w_j ?_
  rw [shr_bit hs hx]
  have := bq_c s x
  refine w_eq (by omega) (fun c => ?_) (fun c => ?_)
  · exact w_g1 (w_s (bI_1 c))
  · exact w_g0 (w_s (bI_0 c))
def WLow (g : Nat → Int) (s : Nat) (a b c d : Nat) (r : Int) : Prop := bq s a = 0 → bq s b = 0 → bq s c = 1 → bq s d = 1 → r ≤ Qd g a b c d
theorem WLow_le {g : Nat → Int} {s a b c d : Nat} {r r' : Int} (h : WLow g s a b c d r) (e : r' ≤ r) : WLow g s a b c d r' := fun p1 p2 p3 p4 => Int.le_trans e (h p1 p2 p3 p4)
def WAtt (n : Nat) (g : Nat → Int) (s : Nat) (r : Int) : Prop := 0 ≤ r ∧ r ≤ 160 ∧ (r = 160 ∨ ∃ a b c d, a < n ∧ b < n ∧ c < n ∧ d < n ∧ bq s a = 0 ∧ bq s b = 0 ∧ bq s c = 1 ∧ bq s d = 1 ∧ r = Qd g a b c d)
theorem weightOf_X9 {n s : Nat} {g : Nat → Int} (h5 : n ≤ 5) (tg : Tb g) (hs : s < 32) : wp (f_X9_weightOf s n g) (fun r => WAtt n g s r ∧ ∀ a, a < n → ∀ b, b < a + 1 → ∀ c, c < n → ∀ d, d < c + 1 → WLow g s a b c d r) := by
  unfold f_X9_weightOf
  refine w_q2 (fun k r v => v = (k : Int) ∧ WAtt n g s r ∧ ∀ a, a < k → ∀ b, b < a + 1 → ∀ c, c < n → ∀ d, d < c + 1 → WLow g s a b c d r) n 0 ⟨rfl, ⟨by omega, by omega, Or.inl rfl⟩, fa_0⟩ (by omega) (by omega) (fun k hk r v hI nx hn => ?_) (fun r v hI nx => ?_)
  · obtain ⟨rfl, t1, t2⟩ := hI
    refine w_ltT (by omega) ?_
    refine w_q2 (fun m r v => v = (m : Int) ∧ WAtt n g s r ∧ (∀ a, a < k → ∀ b, b < a + 1 → ∀ c, c < n → ∀ d, d < c + 1 → WLow g s a b c d r) ∧ ∀ b, b < m → ∀ c, c < n → ∀ d, d < c + 1 → WLow g s k b c d r) (k + 1) 0 ⟨rfl, t1, t2, fa_0⟩ (by omega) (by omega) (fun m hm r v hI ny hy => ?_) (fun r v hI ny => ?_)
    · obtain ⟨rfl, u1, u2, u3⟩ := hI
      refine w_ltF (by omega) ?_
      refine w_q2 (fun l r v => v = (l : Int) ∧ WAtt n g s r ∧ (∀ a, a < k → ∀ b, b < a + 1 → ∀ c, c < n → ∀ d, d < c + 1 → WLow g s a b c d r) ∧ (∀ b, b < m → ∀ c, c < n → ∀ d, d < c + 1 → WLow g s k b c d r) ∧ ∀ c, c < l → ∀ d, d < c + 1 → WLow g s k m c d r) n 0 ⟨rfl, u1, u2, u3, fa_0⟩ (by omega) (by omega) (fun l hl r v hI nw hw => ?_) (fun r v hI nw => ?_)
      · obtain ⟨rfl, v1, v2, v3, v4⟩ := hI
        refine w_ltT (by omega) ?_
        refine w_q2 (fun i r v => v = (i : Int) ∧ WAtt n g s r ∧ (∀ a, a < k → ∀ b, b < a + 1 → ∀ c, c < n → ∀ d, d < c + 1 → WLow g s a b c d r) ∧ (∀ b, b < m → ∀ c, c < n → ∀ d, d < c + 1 → WLow g s k b c d r) ∧ (∀ c, c < l → ∀ d, d < c + 1 → WLow g s k m c d r) ∧ ∀ d, d < i → WLow g s k m l d r) (l + 1) 0 ⟨rfl, v1, v2, v3, v4, fa_0⟩ (by omega) (by omega) (fun i hi r v hI nz hz => ?_) (fun r v hI nz => ?_)
        · obtain ⟨rfl, x1, x2, x3, x4, x5⟩ := hI
          refine w_ltF (by omega) ?_
          have out : WLow g s k m l i r → wp (nz r ((i : Int) + 1)) (fun r => WAtt n g s r ∧ ∀ a, a < n → ∀ b, b < a + 1 → ∀ c, c < n → ∀ d, d < c + 1 → WLow g s a b c d r) := fun q => hz _ _ ⟨by omega, x1, x2, x3, x4, fa_s x5 q⟩
          refine w_b1 (isIn_X9 hs (by omega) (Or.inl rfl)) (fun q1 hq1 => ?_)
          refine w_j ?_
          refine w_bI hq1 (fun z _ => out (fun p1 p2 p3 p4 => absurd p1 (by omega))) (fun y1 _ => ?_)
          refine w_b1 (isIn_X9 hs (by omega) (Or.inl rfl)) (fun q2 hq2 => ?_)
          refine w_bI hq2 (fun z _ => out (fun p1 p2 p3 p4 => absurd p2 (by omega))) (fun y2 _ => ?_)
          refine w_b1 (isIn_X9 hs (by omega) (Or.inr rfl)) (fun q3 hq3 => ?_)
          refine w_bI hq3 (fun z _ => out (fun p1 p2 p3 p4 => absurd p3 (by omega))) (fun y3 _ => ?_)
          refine w_b1 (isIn_X9 hs (by omega) (Or.inr rfl)) (fun q4 hq4 => ?_)
          refine w_bI hq4 (fun z _ => out (fun p1 p2 p3 p4 => absurd p4 (by omega))) (fun y4 _ => ?_)
          refine w_d tg (by omega) (fun r1 f1 l1 v1 => ?_)
          refine w_d tg (by omega) (fun r2 f2 l2 v2 => ?_)
          refine w_l (fun z1 e1 => ?_)
          refine w_d tg (by omega) (fun r3 f3 l3 v3 => ?_)
          refine w_d tg (by omega) (fun r4 f4 l4 v4 => ?_)
          refine w_d tg (by omega) (fun r5 f5 l5 v5 => ?_)
          refine w_d tg (by omega) (fun r6 f6 l6 v6 => ?_)
          have m1 := mxx_w (r3 + r4) (r5 + r6)
          refine w_l (fun z2 e2 => ?_)
          rw [mxx_max (a := r3 + r4) (by omega), mxx_max (by omega)] at e2
          have eQ : z2 - z1 = Qd g k m l i := by
            unfold Qd
            rw [e2, e1, f1, f2, f3, f4, f5, f6]
          have q := Qd_in tg (a := k) (b := m) (c := l) (d := i) (by omega) (by omega) (by omega) (by omega)
          refine w_l (fun z3 e3 => ?_)
          rw [eQ] at e3
          obtain ⟨y5, y6, y7⟩ := x1
          have mw := minI_w (a := r) (b := Qd g k m l i) (by omega)
          rw [← e3] at mw
          refine hz _ _ ⟨by omega, ⟨by omega, by omega, ?_⟩, fun a ha b hb c hc d hd => WLow_le (x2 a ha b hb c hc d hd) mw.1, fun b hb c hc d hd => WLow_le (x3 b hb c hc d hd) mw.1, fun c hc d hd => WLow_le (x4 c hc d hd) mw.1, fa_s (fun d hd => WLow_le (x5 d hd) mw.1) (fun _ _ _ _ => mw.2.1)⟩
          rcases mw.2.2 with e | e
          · rw [e]
            exact y7
          · exact Or.inr ⟨k, m, l, i, by omega, by omega, by omega, by omega, by omega, by omega, by omega, by omega, e⟩
        · obtain ⟨rfl, x1, x2, x3, x4, x5⟩ := hI
          refine w_ltT (by omega) ?_
          exact hw _ _ ⟨by omega, x1, x2, x3, fa_s x4 x5⟩
      · obtain ⟨rfl, v1, v2, v3, v4⟩ := hI
        refine w_ltF (by omega) ?_
        exact hy _ _ ⟨by omega, v1, v2, fa_s v3 v4⟩
    · obtain ⟨rfl, u1, u2, u3⟩ := hI
      refine w_ltT (by omega) ?_
      exact hn _ _ ⟨by omega, u1, fa_s u2 u3⟩
  · obtain ⟨rfl, t1, t2⟩ := hI
    refine w_ltF (by omega) ?_
    exact w_s ⟨t1, t2⟩
theorem spl_bit_f : ∀ n : Fin 6, ∀ s : Fin 32, s.val % 2 = 0 → 0 < s.val → s.val < 2 ^ n.val → ∃ a : Fin 5, a.val < n.val ∧ bq s.val a.val = 1 := by decide +kernel
theorem bq_even {s : Nat} (h : s % 2 = 0) : bq s 0 = 0 := by
  unfold bq
  omega
theorem two5 {n : Nat} (h5 : n ≤ 5) : 2 ^ n ≤ 32 := Nat.pow_le_pow_right (by omega) h5
theorem weight_same {n s : Nat} {g far : Nat → Int} (h3 : 3 ≤ n) (h5 : n ≤ 5) (tg : Tb g) (tf : Tb far) (ag : Ag n g far) (hs : Spl n s) : ∃ r, f_X4_weightOf s n g = some r ∧ f_X9_weightOf s n far = some r ∧ 0 ≤ r ∧ r ≤ 80 := by
  obtain ⟨s1, s2, s3⟩ := hs
  have t5 := two5 h5
  obtain ⟨a, ha, hb⟩ := spl_bit_f ⟨n, by omega⟩ ⟨s, by omega⟩ s1 s2 s3
  have hb0 := bq_even s1
  refine wp_two (weightOf_X4 (n := n) (s := s) h5 tg (by omega)) (weightOf_X9 (n := n) (s := s) h5 tf (by omega)) (fun r r' e1 e2 p q => ?_)
  obtain ⟨p1, p2, p3, p4⟩ := p
  obtain ⟨⟨q1, q2, q3⟩, q4⟩ := q
  have up4 : ∀ a b c d, a < n → b < n → c < n → d < n → bq s a = 1 → bq s b = 1 → bq s c = 0 → bq s d = 0 → r ≤ Qd g a b c d := by
    intro a b c d ha hb hc hd k1 k2 k3 k4
    have aa : ∀ c d, c ≤ d → c < n → d < n → bq s c = 0 → bq s d = 0 → r ≤ Qd g a b c d := by
      intro c d cd hc hd k3 k4
      by_cases l : a ≤ b
      · exact p4 a ha b hb l k1 k2 c hc d hd cd k3 k4
      · rw [Qd_ab tg (by omega) (by omega) (by omega) (by omega)]
        exact p4 b hb a ha (by omega) k2 k1 c hc d hd cd k3 k4
    by_cases l : c ≤ d
    · exact aa c d l hc hd k3 k4
    · rw [Qd_cd tg (by omega) (by omega) (by omega) (by omega)]
      exact aa d c (by omega) hd hc k4 k3
  have up9 : ∀ a b c d, a < n → b < n → c < n → d < n → bq s a = 0 → bq s b = 0 → bq s c = 1 → bq s d = 1 → r' ≤ Qd far a b c d := by
    intro a b c d ha hb hc hd k1 k2 k3 k4
    have aa : ∀ c d, d ≤ c → c < n → d < n → bq s c = 1 → bq s d = 1 → r' ≤ Qd far a b c d := by
      intro c d cd hc hd k3 k4
      by_cases l : b ≤ a
      · exact q4 a ha b (by omega) c hc d (by omega) k1 k2 k3 k4
      · rw [Qd_ab tf (by omega) (by omega) (by omega) (by omega)]
        exact q4 b hb a (by omega) c hc d (by omega) k2 k1 k3 k4
    by_cases l : d ≤ c
    · exact aa c d l hc hd k3 k4
    · rw [Qd_cd tf (by omega) (by omega) (by omega) (by omega)]
      exact aa d c (by omega) hd hc k4 k3
  have one4 := up4 a a 0 0 ha ha (by omega) (by omega) hb hb hb0 hb0
  have q80 := Qd_in tg (a := a) (b := a) (c := 0) (d := 0) (by omega) (by omega) (by omega) (by omega)
  have one9 := up9 0 0 a a (by omega) (by omega) ha ha hb0 hb0 hb hb
  have q81 := Qd_in tf (a := 0) (b := 0) (c := a) (d := a) (by omega) (by omega) (by omega) (by omega)
  have e : r = r' := by
    rcases p3 with h | ⟨a, b, c, d, ha, hb, hc, hd, k1, k2, k3, k4, er⟩
    · omega
    rcases q3 with h | ⟨a', b', c', d', ha', hb', hc', hd', k1', k2', k3', k4', er'⟩
    · omega
    have x := up4 c' d' a' b' hc' hd' ha' hb' k3' k4' k1' k2'
    rw [Qd_ag ag hc' hd' ha' hb', Qd_sw tf (by omega) (by omega) (by omega) (by omega), ← er'] at x
    have y := up9 c d a b hc hd ha hb k3 k4 k1 k2
    rw [← Qd_ag ag hc hd ha hb, Qd_sw tg (by omega) (by omega) (by omega) (by omega), ← er] at y
    omega
  subst e
  exact ⟨r, e1, e2, p1, by omega⟩
