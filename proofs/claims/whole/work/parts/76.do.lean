/-! PURE PART: one clause carried out -/
theorem eqI_sym {a b : Int} : eqI a b = eqI b a := by
  unfold eqI
  exact decide_eq_decide.mpr ⟨Eq.symm, Eq.symm⟩
theorem eqI_re {a : Int} : eqI a a = true := decide_eq_true rfl
theorem mn_big {b : Int} (r : 0 ≤ b ∧ b ≤ 100000) : minI 40 b = mn 40 b ∧ 0 ≤ mn 40 b ∧ mn 40 b ≤ 40 := by
  have := minI_w (a := 40) (b := b) (by omega)
  unfold mn
  split <;> omega
theorem mul_r {a v : Int} (r : 0 ≤ a ∧ a ≤ 40) (q : 0 ≤ v ∧ v ≤ 99) : 0 ≤ a * v ∧ a * v ≤ 100000 := by
  refine ⟨Int.mul_nonneg r.1 q.1, ?_⟩
  have h : a * v ≤ 40 * 99 := Int.mul_le_mul r.2 q.2 q.1 (by decide)
  omega
/-- all are multiplied; those set apart are moved apart -/
def mpw (v : Int) (g : Nat → Int) : Nat → Int := fun k => mn 40 (g k * v)
def same (t : Int) (i j : Nat) : Bool := eqI (andI (shrI t (i : Int)) 1) (andI (shrI t (j : Int)) 1)
def apw (t v : Int) (g : Nat → Int) : Nat → Int := fun k => if same t (k / 5) (k % 5) = true then g k else mn 40 (g k + v)
theorem apw_at {t v : Int} {i j : Nat} {g : Nat → Int} (hj : j < 5) : apw t v g (5 * i + j) = if same t i j = true then g (5 * i + j) else mn 40 (g (5 * i + j) + v) := by
  unfold apw
  rw [show (5 * i + j) / 5 = i by omega, show (5 * i + j) % 5 = j by omega]
theorem same_sym {t : Int} {i j : Nat} : same t i j = same t j i := eqI_sym
theorem same_re {t : Int} {i : Nat} : same t i i = true := eqI_re
theorem mpw_T {n : Nat} {v : Int} {g : Nat → Int} (hv : 0 ≤ v ∧ v ≤ 99) (tg : Tn n g) : Tn n (mpw v g) := fun i j hi hj => by
  have a := tg i j hi hj
  have m1 := mul_r (a := g (5 * i + j)) (v := v) ⟨a.1, a.2.1⟩ hv
  have m2 := mn_big m1
  unfold mpw
  refine ⟨m2.2.1, m2.2.2, by rw [a.2.2.1], ?_⟩
  rw [a.2.2.2, Int.zero_mul]
  rfl
theorem mpw_c {n : Nat} {v : Int} {g far : Nat → Int} (ag : Ag n g far) : Ag n (mpw v g) (mpw v far) := fun i j hi hj => by
  unfold mpw
  rw [ag i j hi hj]
theorem apw_T {n : Nat} {t v : Int} {g : Nat → Int} (h5 : n ≤ 5) (hv : 0 ≤ v ∧ v ≤ 99) (tg : Tn n g) : Tn n (apw t v g) := fun i j hi hj => by
  have a := tg i j hi hj
  have m2 := mn_big (b := g (5 * i + j) + v) (by omega)
  rw [apw_at (by omega), apw_at (by omega), apw_at (by omega), same_re, if_pos rfl, same_sym (i := j) (j := i), ← a.2.2.1]
  split <;> omega
theorem apw_c {n : Nat} {t v : Int} {g far : Nat → Int} (h5 : n ≤ 5) (ag : Ag n g far) : Ag n (apw t v g) (apw t v far) := fun i j hi hj => by
  rw [apw_at (by omega), apw_at (by omega), ag i j hi hj]
theorem multiply_X2 {n : Nat} {v : Int} {g : Nat → Int} (h3 : 3 ≤ n) (h5 : n ≤ 5) (tg : Tb g) (hv : 0 ≤ v ∧ v ≤ 99) : wp (f_X2_multiply v n g) (fun o => Tb o ∧ Ag n o (mpw v g)) := by
  unfold f_X2_multiply
  refine w_q2 (fun k z c => z = (k : Int) ∧ PI4 n k 0 g (mpw v g) c) n 0 ⟨rfl, PI4_0 tg⟩ (by omega) (by omega) (fun k hk z c hI nx hn => ?_) (fun z c hI nx => ?_)
  · obtain ⟨rfl, p1⟩ := hI
    refine w_ltT (by omega) ?_
    refine w_l (fun x hx => ?_)
    refine w_q2 (fun m z c => z = (m : Int) ∧ k < m ∧ PI4 n k m g (mpw v g) c) n (k + 1) ⟨by omega, by omega, PI4_b p1⟩ (by omega) (by omega) (fun m hm z c hI nw hw => ?_) (fun z c hI nw => ?_)
    · obtain ⟨rfl, km, p2⟩ := hI
      have e1 := PI4_c p2 km hm
      refine w_ltT (by omega) ?_
      refine w_gap p2.1 (by omega) (fun r f l u => ?_)
      have m1 := mn_big (mul_r (a := r) (v := v) ⟨l, u⟩ hv)
      refine w_put (by omega) ?_
      refine hw _ _ ⟨by omega, by omega, PI4_s h5 p2 km hm ?_ (by rw [m1.1]; exact m1.2)⟩
      rw [m1.1]
      show mn 40 (r * v) = mn 40 (g (5 * k + m) * v)
      rw [f, e1]
    · obtain ⟨rfl, km, p2⟩ := hI
      refine w_ltF (by omega) ?_
      exact hn _ _ ⟨by omega, PI4_n p2⟩
  · obtain ⟨rfl, p1⟩ := hI
    refine w_ltF (by omega) ?_
    exact w_s ⟨p1.1, PI4_e h5 (mpw_T hv (Tn_of h5 tg)) p1⟩
theorem apart_X2 {n : Nat} {t v : Int} {g : Nat → Int} (h3 : 3 ≤ n) (h5 : n ≤ 5) (tg : Tb g) (hv : 0 ≤ v ∧ v ≤ 99) : wp (f_X2_setApart t v n g) (fun o => (ltI t (shlI 1 n) = true ∧ o.1 = 1 ∧ Tb o.2 ∧ Ag n o.2 (apw t v g)) ∨ (ltI t (shlI 1 n) = false ∧ o.1 = 0 ∧ o.2 = g)) := by
  unfold f_X2_setApart
  refine w_i (fun hb => ?_) (fun hb => w_s (Or.inr ⟨hb, rfl, rfl⟩))
  refine w_q2 (fun k z c => z = (k : Int) ∧ PI4 n k 0 g (apw t v g) c) n 0 ⟨rfl, PI4_0 tg⟩ (by omega) (by omega) (fun k hk z c hI nx hn => ?_) (fun z c hI nx => ?_)
  · obtain ⟨rfl, p1⟩ := hI
    refine w_ltT (by omega) ?_
    refine w_l (fun x hx => ?_)
    refine w_q2 (fun m z c => z = (m : Int) ∧ k < m ∧ PI4 n k m g (apw t v g) c) n (k + 1) ⟨by omega, by omega, PI4_b p1⟩ (by omega) (by omega) (fun m hm z c hI nw hw => ?_) (fun z c hI nw => ?_)
    · obtain ⟨rfl, km, p2⟩ := hI
      have e1 := PI4_c p2 km hm
      refine w_ltT (by omega) ?_
      refine w_j ?_
      refine w_i (fun d => ?_) (fun d => ?_)
      · have d' : same t k m = true := d
        exact hw _ _ ⟨by omega, by omega, PI4_k p2 (by rw [apw_at (by omega), if_pos d'])⟩
      · have d' : ¬ same t k m = true := by
          rw [show same t k m = false from d]
          decide
        refine w_gap p2.1 (by omega) (fun r f l u => ?_)
        have m1 := mn_big (b := r + v) (by omega)
        refine w_put (by omega) ?_
        refine hw _ _ ⟨by omega, by omega, PI4_s h5 p2 km hm ?_ (by rw [m1.1]; exact m1.2)⟩
        rw [m1.1, apw_at (by omega), if_neg d', f, e1]
    · obtain ⟨rfl, km, p2⟩ := hI
      refine w_ltF (by omega) ?_
      exact hn _ _ ⟨by omega, PI4_n p2⟩
  · obtain ⟨rfl, p1⟩ := hI
    refine w_ltF (by omega) ?_
    exact w_s (Or.inl ⟨hb, rfl, p1.1, PI4_e h5 (apw_T h5 hv (Tn_of h5 tg)) p1⟩)
theorem done_109 {n c : Nat} {far nb be kp cl to by' nu : Nat → Int} (h3 : 3 ≤ n) (h5 : n ≤ 5) (hc : c < 12) (tf : Tb far) (e : cl c = 109) (hv : 0 ≤ nu c ∧ nu c ≤ 99) : wp (f_X9_isDone c n far nb be kp cl to by' nu) (fun o => o.1 = 1 ∧ o.2.1 = (n : Int) ∧ (Tb o.2.2.1 ∧ Ag n o.2.2.1 (mpw (nu c) far)) ∧ o.2.2.2.1 = nb ∧ o.2.2.2.2.1 = be) := by
  have ic : ix (c : Int) = c := ix_nat (by omega)
  unfold f_X9_isDone
  simp only [ic, e]
  refine w_gi (by omega) ?_
  refine w_lz ?_
  refine w_gi (by omega) ?_
  refine w_j ?_
  refine w_eqF (by omega) ?_
  refine w_eqF (by omega) ?_
  refine w_eqF (by omega) ?_
  refine w_eqF (by omega) ?_
  refine w_q2 (fun k z f => z = (k : Int) ∧ PI9 n k 0 far (mpw (nu c) far) f) n 0 ⟨rfl, PI9_0 tf⟩ (by omega) (by omega) (fun k hk z f hI nx hn => ?_) (fun z f hI nx => ?_)
  · obtain ⟨rfl, p1⟩ := hI
    refine w_ltT (by omega) ?_
    refine w_q2 (fun m z f => z = (m : Int) ∧ PI9 n k m far (mpw (nu c) far) f) k 0 ⟨rfl, p1⟩ (by omega) (by omega) (fun m hm z f hI nw hw => ?_) (fun z f hI nw => ?_)
    · obtain ⟨rfl, p2⟩ := hI
      have e1 := PI9_c p2 hm hk
      refine w_ltT (by omega) ?_
      refine w_gi (by omega) ?_
      refine w_j ?_
      refine w_eqT rfl ?_
      refine w_d p2.1 (by omega) (fun r f l u => ?_)
      have m1 := mn_big (mul_r (a := r) (v := nu c) ⟨l, u⟩ hv)
      refine w_lays (by omega) ?_
      refine hw _ _ ⟨by omega, PI9_s h5 p2 hm hk ?_ (by rw [m1.1]; exact m1.2)⟩
      rw [m1.1]
      show mn 40 (r * nu c) = mn 40 (far (5 * k + m) * nu c)
      rw [f, e1]
    · obtain ⟨rfl, p2⟩ := hI
      refine w_ltF (by omega) ?_
      exact hn _ _ ⟨by omega, PI9_n p2⟩
  · obtain ⟨rfl, p1⟩ := hI
    refine w_ltF (by omega) ?_
    exact w_s ⟨rfl, rfl, ⟨p1.1, PI9_e h5 (mpw_T hv (Tn_of h5 tf)) p1⟩, rfl, rfl⟩
theorem done_115 {n c : Nat} {far nb be kp cl to by' nu : Nat → Int} (h3 : 3 ≤ n) (h5 : n ≤ 5) (hc : c < 12) (tf : Tb far) (e : cl c = 115) (hv : 0 ≤ nu c ∧ nu c ≤ 99) : wp (f_X9_isDone c n far nb be kp cl to by' nu) (fun o => o.2.1 = (n : Int) ∧ o.2.2.2.1 = nb ∧ o.2.2.2.2.1 = be ∧ ((ltI (to c) (shlI 1 n) = true ∧ o.1 = 1 ∧ Tb o.2.2.1 ∧ Ag n o.2.2.1 (apw (to c) (nu c) far)) ∨ (ltI (to c) (shlI 1 n) = false ∧ o.1 = 0 ∧ o.2.2.1 = far))) := by
  have ic : ix (c : Int) = c := ix_nat (by omega)
  unfold f_X9_isDone
  simp only [ic, e]
  refine w_gi (by omega) ?_
  refine w_lz ?_
  refine w_gi (by omega) ?_
  refine w_j ?_
  refine w_eqF (by omega) ?_
  refine w_eqF (by omega) ?_
  refine w_eqF (by omega) ?_
  refine w_eqT rfl ?_
  refine w_gi (by omega) ?_
  refine w_i (fun hb => ?_) (fun hb => w_s ⟨rfl, rfl, rfl, Or.inr ⟨hb, rfl, rfl⟩⟩)
  refine w_q2 (fun k z f => z = (k : Int) ∧ PI9 n k 0 far (apw (to c) (nu c) far) f) n 0 ⟨rfl, PI9_0 tf⟩ (by omega) (by omega) (fun k hk z f hI nx hn => ?_) (fun z f hI nx => ?_)
  · obtain ⟨rfl, p1⟩ := hI
    refine w_ltT (by omega) ?_
    refine w_q2 (fun m z f => z = (m : Int) ∧ PI9 n k m far (apw (to c) (nu c) far) f) k 0 ⟨rfl, p1⟩ (by omega) (by omega) (fun m hm z f hI nw hw => ?_) (fun z f hI nw => ?_)
    · obtain ⟨rfl, p2⟩ := hI
      have e1 := PI9_c p2 hm hk
      refine w_ltT (by omega) ?_
      refine w_gi (by omega) ?_
      refine w_j ?_
      refine w_eqF (by omega) ?_
      refine w_gi (by omega) ?_
      refine w_gi (by omega) ?_
      refine w_i (fun d => ?_) (fun d => ?_)
      · have d' : same (to c) k m = true := d
        exact hw _ _ ⟨by omega, PI9_k p2 (by rw [apw_at (by omega), if_pos d'])⟩
      · have d' : ¬ same (to c) k m = true := by
          rw [show same (to c) k m = false from d]
          decide
        refine w_d p2.1 (by omega) (fun r f l u => ?_)
        have m1 := mn_big (b := r + nu c) (by omega)
        refine w_lays (by omega) ?_
        refine hw _ _ ⟨by omega, PI9_s h5 p2 hm hk ?_ (by rw [m1.1]; exact m1.2)⟩
        rw [m1.1, apw_at (by omega), if_neg d', f, e1]
    · obtain ⟨rfl, p2⟩ := hI
      refine w_ltF (by omega) ?_
      exact hn _ _ ⟨by omega, PI9_n p2⟩
  · obtain ⟨rfl, p1⟩ := hI
    refine w_ltF (by omega) ?_
    exact w_s ⟨rfl, rfl, rfl, Or.inl ⟨hb, rfl, p1.1, PI9_e h5 (apw_T h5 hv (Tn_of h5 tf)) p1⟩⟩
