/-! PURE PART: weights of splits -/
def bq (s a : Nat) : Nat := s / 2 ^ a % 2
theorem bq_c (s a : Nat) : bq s a = 0 ∨ bq s a = 1 := by
  unfold bq
  omega
theorem shr_bit_f : ∀ s : Fin 32, ∀ a : Fin 5, andI (shrI (s.val : Int) (a.val : Int)) 1 = (bq s.val a.val : Int) := by decide +kernel
theorem shr_bit {s a : Nat} (hs : s < 32) (ha : a < 5) : andI (shrI (s : Int) (a : Int)) 1 = (bq s a : Int) := shr_bit_f ⟨s, hs⟩ ⟨a, ha⟩
def mxx (a b : Int) : Int := if a ≤ b then b else a
theorem mxx_max {a b : Int} (r : 0 ≤ a ∧ a ≤ 200 ∧ 0 ≤ b ∧ b ≤ 200) : maxI a b = mxx a b := by
  have := maxI_w (a := a) (b := b) (by omega)
  unfold mxx
  split <;> omega
theorem mxx_w (a b : Int) : a ≤ mxx a b ∧ b ≤ mxx a b ∧ (mxx a b = a ∨ mxx a b = b) := by
  unfold mxx
  split <;> omega
def Qd (g : Nat → Int) (a b c d : Nat) : Int := mxx (g (5 * a + b) + g (5 * c + d)) (mxx (g (5 * a + c) + g (5 * b + d)) (g (5 * a + d) + g (5 * b + c))) - (g (5 * a + b) + g (5 * c + d))
theorem Qd_in {g : Nat → Int} (tg : Tb g) {a b c d : Nat} (ha : a < 5) (hb : b < 5) (hc : c < 5) (hd : d < 5) : 0 ≤ Qd g a b c d ∧ Qd g a b c d ≤ 80 := by
  have t1 := tg a b ha hb
  have t2 := tg c d hc hd
  have t3 := tg a c ha hc
  have t4 := tg b d hb hd
  have t5 := tg a d ha hd
  have t6 := tg b c hb hc
  have m1 := mxx_w (g (5 * a + c) + g (5 * b + d)) (g (5 * a + d) + g (5 * b + c))
  have m2 := mxx_w (g (5 * a + b) + g (5 * c + d)) (mxx (g (5 * a + c) + g (5 * b + d)) (g (5 * a + d) + g (5 * b + c)))
  unfold Qd
  omega
theorem mxx_c (a b : Int) : mxx a b = mxx b a := by
  unfold mxx
  split <;> split <;> omega
theorem Qd_ab {g : Nat → Int} (tg : Tb g) {a b c d : Nat} (ha : a < 5) (hb : b < 5) (hc : c < 5) (hd : d < 5) : Qd g a b c d = Qd g b a c d := by
  unfold Qd
  rw [(tg a b ha hb).2.2.1, mxx_c (g (5 * a + c) + g (5 * b + d)), Int.add_comm (g (5 * a + d)), Int.add_comm (g (5 * a + c))]
theorem Qd_cd {g : Nat → Int} (tg : Tb g) {a b c d : Nat} (ha : a < 5) (hb : b < 5) (hc : c < 5) (hd : d < 5) : Qd g a b c d = Qd g a b d c := by
  unfold Qd
  rw [(tg c d hc hd).2.2.1, mxx_c (g (5 * a + c) + g (5 * b + d))]
theorem Qd_sw {g : Nat → Int} (tg : Tb g) {a b c d : Nat} (ha : a < 5) (hb : b < 5) (hc : c < 5) (hd : d < 5) : Qd g a b c d = Qd g c d a b := by
  unfold Qd
  rw [Int.add_comm (g (5 * a + b)), (tg a c ha hc).2.2.1, (tg b d hb hd).2.2.1, (tg a d ha hd).2.2.1, (tg b c hb hc).2.2.1, Int.add_comm (g (5 * d + a))]
theorem Qd_ag {n : Nat} {g far : Nat → Int} (ag : Ag n g far) {a b c d : Nat} (ha : a < n) (hb : b < n) (hc : c < n) (hd : d < n) : Qd g a b c d = Qd far a b c d := by
  unfold Qd
  rw [ag a b (by omega) (by omega), ag c d (by omega) (by omega), ag a c (by omega) (by omega), ag b d (by omega) (by omega), ag a d (by omega) (by omega), ag b c (by omega) (by omega)]
theorem weightBy_X4 {n s a b : Nat} {g : Nat → Int} (h5 : n ≤ 5) (tg : Tb g) (hs : s < 32) (ha : a < n) (hb : b < n) : wp (f_X4_weightBy s a b n g) (fun r => 0 ≤ r ∧ r ≤ 1000 ∧ (r = 1000 ∨ ∃ c d, c < n ∧ d < n ∧ bq s c = 0 ∧ bq s d = 0 ∧ r = Qd g a b c d) ∧ ∀ c, c < n → ∀ d, d < n → c ≤ d → bq s c = 0 → bq s d = 0 → r ≤ Qd g a b c d) := by
  unfold f_X4_weightBy
  refine w_q2 (fun k r v => v = (k : Int) ∧ 0 ≤ r ∧ r ≤ 1000 ∧ (r = 1000 ∨ ∃ c d, c < n ∧ d < n ∧ bq s c = 0 ∧ bq s d = 0 ∧ r = Qd g a b c d) ∧ ∀ c, c < k → ∀ d, d < n → c ≤ d → bq s c = 0 → bq s d = 0 → r ≤ Qd g a b c d) n 0 ⟨rfl, by omega, by omega, Or.inl rfl, fa_0⟩ (by omega) (by omega) (fun k hk r v hI nx hn => ?_) (fun r v hI nx => ?_)
  · obtain ⟨rfl, t1, t2, t3, t4⟩ := hI
    refine w_ltT (by omega) ?_
    refine w_q2 (fun m r v => v = (m : Int) ∧ k ≤ m ∧ 0 ≤ r ∧ r ≤ 1000 ∧ (r = 1000 ∨ ∃ c d, c < n ∧ d < n ∧ bq s c = 0 ∧ bq s d = 0 ∧ r = Qd g a b c d) ∧ (∀ c, c < k → ∀ d, d < n → c ≤ d → bq s c = 0 → bq s d = 0 → r ≤ Qd g a b c d) ∧ ∀ d, d < m → k ≤ d → bq s k = 0 → bq s d = 0 → r ≤ Qd g a b k d) n k ⟨rfl, Nat.le_refl _, t1, t2, t3, t4, fun d h1 h2 => absurd h1 (by omega)⟩ (by omega) (by omega) (fun m hm r v hI ny hy => ?_) (fun r v hI ny => ?_)
    · obtain ⟨rfl, km, u1, u2, u3, u4, u5⟩ := hI
      refine w_ltT (by omega) ?_
      refine w_j ?_
      rw [shr_bit hs (by omega), shr_bit hs (by omega)]
      have b1 := bq_c s k
      have b2 := bq_c s m
      refine w_eq (by omega) (fun c1 => ?_) (fun c1 => ?_)
      · refine w_eq (by omega) (fun c2 => ?_) (fun c2 => ?_)
        · refine w_gap tg (by omega) (fun r1 f1 l1 v1 => ?_)
          refine w_gap tg (by omega) (fun r2 f2 l2 v2 => ?_)
          refine w_l (fun x1 e1 => ?_)
          refine w_gap tg (by omega) (fun r3 f3 l3 v3 => ?_)
          refine w_gap tg (by omega) (fun r4 f4 l4 v4 => ?_)
          refine w_gap tg (by omega) (fun r5 f5 l5 v5 => ?_)
          refine w_gap tg (by omega) (fun r6 f6 l6 v6 => ?_)
          refine w_l (fun x2 e2 => ?_)
          rw [mxx_max (by omega)] at e2
          have m1 := mxx_w (r3 + r4) (r5 + r6)
          refine w_l (fun x3 e3 => ?_)
          rw [mxx_max (by omega)] at e3
          have eQ : mxx x1 x2 - x1 = Qd g a b k m := by
            unfold Qd
            rw [e1, e2, f1, f2, f3, f4, f5, f6]
          have q := Qd_in tg (a := a) (b := b) (c := k) (d := m) (by omega) (by omega) (by omega) (by omega)
          rw [eQ] at e3
          have mw := minI_w (a := r) (b := Qd g a b k m) (by omega)
          rw [← e3] at mw
          refine hy _ _ ⟨by omega, by omega, by omega, by omega, ?_, fun c hc d hd cd p1 p2 => Int.le_trans mw.1 (u4 c hc d hd cd p1 p2), fun d hd kd p1 p2 => ?_⟩
          · rcases mw.2.2 with e | e
            · rw [e]
              exact u3
            · exact Or.inr ⟨k, m, hk, hm, by omega, by omega, e⟩
          · by_cases c : d = m
            · subst c
              exact mw.2.1
            · exact Int.le_trans mw.1 (u5 d (by omega) kd p1 p2)
        · refine hy _ _ ⟨by omega, by omega, u1, u2, u3, u4, fun d hd kd p1 p2 => ?_⟩
          by_cases c : d = m
          · subst c
            omega
          · exact u5 d (by omega) kd p1 p2
      · refine hy _ _ ⟨by omega, by omega, u1, u2, u3, u4, fun d hd kd p1 p2 => by omega⟩
    · obtain ⟨rfl, km, u1, u2, u3, u4, u5⟩ := hI
      refine w_ltF (by omega) ?_
      exact hn _ _ ⟨by omega, u1, u2, u3, fa_s u4 u5⟩
  · obtain ⟨rfl, t1, t2, t3, t4⟩ := hI
    refine w_ltF (by omega) ?_
    exact w_s ⟨t1, t2, t3, t4⟩
theorem weightOf_X4 {n s : Nat} {g : Nat → Int} (h5 : n ≤ 5) (tg : Tb g) (hs : s < 32) : wp (f_X4_weightOf s n g) (fun r => 0 ≤ r ∧ r ≤ 1000 ∧ (r = 1000 ∨ ∃ a b c d, a < n ∧ b < n ∧ c < n ∧ d < n ∧ bq s a = 1 ∧ bq s b = 1 ∧ bq s c = 0 ∧ bq s d = 0 ∧ r = Qd g a b c d) ∧ ∀ a, a < n → ∀ b, b < n → a ≤ b → bq s a = 1 → bq s b = 1 → ∀ c, c < n → ∀ d, d < n → c ≤ d → bq s c = 0 → bq s d = 0 → r ≤ Qd g a b c d) := by
  unfold f_X4_weightOf
  refine w_q2 (fun k r v => v = (k : Int) ∧ 0 ≤ r ∧ r ≤ 1000 ∧ (r = 1000 ∨ ∃ a b c d, a < n ∧ b < n ∧ c < n ∧ d < n ∧ bq s a = 1 ∧ bq s b = 1 ∧ bq s c = 0 ∧ bq s d = 0 ∧ r = Qd g a b c d) ∧ ∀ a, a < k → ∀ b, b < n → a ≤ b → bq s a = 1 → bq s b = 1 → ∀ c, c < n → ∀ d, d < n → c ≤ d → bq s c = 0 → bq s d = 0 → r ≤ Qd g a b c d) n 0 ⟨rfl, by omega, by omega, Or.inl rfl, fa_0⟩ (by omega) (by omega) (fun k hk r v hI nx hn => ?_) (fun r v hI nx => ?_)
  · obtain ⟨rfl, t1, t2, t3, t4⟩ := hI
    refine w_ltT (by omega) ?_
    refine w_q2 (fun m r v => v = (m : Int) ∧ k ≤ m ∧ 0 ≤ r ∧ r ≤ 1000 ∧ (r = 1000 ∨ ∃ a b c d, a < n ∧ b < n ∧ c < n ∧ d < n ∧ bq s a = 1 ∧ bq s b = 1 ∧ bq s c = 0 ∧ bq s d = 0 ∧ r = Qd g a b c d) ∧ (∀ a, a < k → ∀ b, b < n → a ≤ b → bq s a = 1 → bq s b = 1 → ∀ c, c < n → ∀ d, d < n → c ≤ d → bq s c = 0 → bq s d = 0 → r ≤ Qd g a b c d) ∧ ∀ b, b < m → k ≤ b → bq s k = 1 → bq s b = 1 → ∀ c, c < n → ∀ d, d < n → c ≤ d → bq s c = 0 → bq s d = 0 → r ≤ Qd g k b c d) n k ⟨rfl, Nat.le_refl _, t1, t2, t3, t4, fun d h1 h2 => absurd h1 (by omega)⟩ (by omega) (by omega) (fun m hm r v hI ny hy => ?_) (fun r v hI ny => ?_)
    · obtain ⟨rfl, km, u1, u2, u3, u4, u5⟩ := hI
      refine w_ltT (by omega) ?_
      refine w_j ?_
      rw [shr_bit hs (by omega), shr_bit hs (by omega)]
      have b1 := bq_c s k
      have b2 := bq_c s m
      refine w_eq (by omega) (fun c1 => ?_) (fun c1 => ?_)
      · refine w_eq (by omega) (fun c2 => ?_) (fun c2 => ?_)
        · refine w_b1 (weightBy_X4 h5 tg hs hk hm) (fun w hw => ?_)
          obtain ⟨w1, w2, w3, w4⟩ := hw
          refine w_l (fun x3 e3 => ?_)
          have mw := minI_w (a := r) (b := w) (by omega)
          rw [← e3] at mw
          refine hy _ _ ⟨by omega, by omega, by omega, by omega, ?_, fun a ha b hb ab p1 p2 c hc d hd cd p3 p4 => Int.le_trans mw.1 (u4 a ha b hb ab p1 p2 c hc d hd cd p3 p4), fun b hb kb p1 p2 c hc d hd cd p3 p4 => ?_⟩
          · rcases mw.2.2 with e | e
            · rw [e]
              exact u3
            · rcases w3 with w3 | ⟨c, d, hc, hd, p3, p4, ew⟩
              · exact Or.inl (by omega)
              · exact Or.inr ⟨k, m, c, d, hk, hm, hc, hd, by omega, by omega, p3, p4, by omega⟩
          · by_cases c : b = m
            · subst c
              exact Int.le_trans mw.2.1 (w4 _ hc _ hd cd p3 p4)
            · exact Int.le_trans mw.1 (u5 b (by omega) kb p1 p2 _ hc _ hd cd p3 p4)
        · refine hy _ _ ⟨by omega, by omega, u1, u2, u3, u4, fun b hb kb p1 p2 => ?_⟩
          by_cases c : b = m
          · subst c
            omega
          · exact u5 b (by omega) kb p1 p2
      · refine hy _ _ ⟨by omega, by omega, u1, u2, u3, u4, fun b hb kb p1 p2 => by omega⟩
    · obtain ⟨rfl, km, u1, u2, u3, u4, u5⟩ := hI
      refine w_ltF (by omega) ?_
      exact hn _ _ ⟨by omega, u1, u2, u3, fa_s u4 u5⟩
  · obtain ⟨rfl, t1, t2, t3, t4⟩ := hI
    refine w_ltF (by omega) ?_
    exact w_s ⟨t1, t2, t3, t4⟩
