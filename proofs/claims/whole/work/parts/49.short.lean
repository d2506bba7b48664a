/-! PURE PART: tables changed in place, two by two; shortened, events -/
def PI4 (n k m : Nat) (g G cur : Nat → Int) : Prop := Tb cur ∧ ∀ i j, i < j → j < n → cur (5 * i + j) = if i < k ∨ (i = k ∧ j < m) then G (5 * i + j) else g (5 * i + j)
def PI9 (n k m : Nat) (g G cur : Nat → Int) : Prop := Tb cur ∧ ∀ i j, j < i → i < n → cur (5 * i + j) = if i < k ∨ (i = k ∧ j < m) then G (5 * i + j) else g (5 * i + j)
/-- a wanted table, as far as the points go -/
def Tn (n : Nat) (G : Nat → Int) : Prop := ∀ i j : Nat, i < n → j < n → 0 ≤ G (5 * i + j) ∧ G (5 * i + j) ≤ 40 ∧ G (5 * i + j) = G (5 * j + i) ∧ G (5 * i + i) = 0
theorem Tn_of {n : Nat} {g : Nat → Int} (h5 : n ≤ 5) (tg : Tb g) : Tn n g := fun i j hi hj => tg i j (by omega) (by omega)
theorem Ag_sym {n : Int} {g far : Nat → Int} (h : Ag n g far) : Ag n far g := fun i j hi hj => (h i j hi hj).symm
theorem Ag_tr {n : Int} {g far fur : Nat → Int} (h : Ag n g far) (k : Ag n far fur) : Ag n g fur := fun i j hi hj => (h i j hi hj).trans (k i j hi hj)
theorem Ag_re {n : Int} {g : Nat → Int} : Ag n g g := fun _ _ _ _ => rfl
theorem Tn_ag {n : Nat} {g G : Nat → Int} (tg : Tn n g) (ag : Ag n g G) : Tn n G := fun i j hi hj => by
  have h := tg i j hi hj
  rw [ag i j (by omega) (by omega), ag j i (by omega) (by omega), ag i i (by omega) (by omega)] at h
  exact h
theorem PI4_0 {n : Nat} {g G : Nat → Int} (tg : Tb g) : PI4 n 0 0 g G g := ⟨tg, fun i j hij hj => by rw [if_neg (by omega)]⟩
theorem PI9_0 {n : Nat} {g G : Nat → Int} (tg : Tb g) : PI9 n 0 0 g G g := ⟨tg, fun i j hij hj => by rw [if_neg (by omega)]⟩
theorem PI4_b {n k : Nat} {g G cur : Nat → Int} (h : PI4 n k 0 g G cur) : PI4 n k (k + 1) g G cur := ⟨h.1, fun i j hij hj => by
  rw [h.2 i j hij hj]
  by_cases c : i < k
  · rw [if_pos (Or.inl c), if_pos (Or.inl c)]
  · rw [if_neg (by omega), if_neg (by omega)]⟩
theorem PI4_n {n k : Nat} {g G cur : Nat → Int} (h : PI4 n k n g G cur) : PI4 n (k + 1) 0 g G cur := ⟨h.1, fun i j hij hj => by
  rw [h.2 i j hij hj]
  by_cases c : i < k + 1
  · rw [if_pos (by omega), if_pos (by omega)]
  · rw [if_neg (by omega), if_neg (by omega)]⟩
theorem PI9_n {n k : Nat} {g G cur : Nat → Int} (h : PI9 n k k g G cur) : PI9 n (k + 1) 0 g G cur := ⟨h.1, fun i j hij hj => by
  rw [h.2 i j hij hj]
  by_cases c : i < k + 1
  · rw [if_pos (by omega), if_pos (by omega)]
  · rw [if_neg (by omega), if_neg (by omega)]⟩
theorem PI4_s {n k m : Nat} {g G cur : Nat → Int} {v : Int} (h5 : n ≤ 5) (h : PI4 n k m g G cur) (hk : k < m) (hm : m < n) (hv : v = G (5 * k + m)) (r : 0 ≤ v ∧ v ≤ 40) : PI4 n k (m + 1) g G (put2 cur k m v) := ⟨Tb_put h.1 (by omega) (by omega) (by omega) r.1 r.2, fun i j hij hj => by
  rw [put2_at _ _ (by omega) (by omega) (by omega) (by omega)]
  by_cases c : i = k ∧ j = m
  · obtain ⟨rfl, rfl⟩ := c
    rw [if_pos (Or.inl ⟨rfl, rfl⟩), if_pos (Or.inr ⟨rfl, by omega⟩)]
    exact hv
  · rw [if_neg (by omega), h.2 i j hij hj]
    by_cases d : i < k ∨ (i = k ∧ j < m)
    · rw [if_pos d, if_pos (by omega)]
    · rw [if_neg d, if_neg (by omega)]⟩
theorem PI9_s {n k m : Nat} {g G cur : Nat → Int} {v : Int} (h5 : n ≤ 5) (h : PI9 n k m g G cur) (hk : m < k) (hm : k < n) (hv : v = G (5 * k + m)) (r : 0 ≤ v ∧ v ≤ 40) : PI9 n k (m + 1) g G (put2 cur k m v) := ⟨Tb_put h.1 (by omega) (by omega) (by omega) r.1 r.2, fun i j hij hj => by
  rw [put2_at _ _ (by omega) (by omega) (by omega) (by omega)]
  by_cases c : i = k ∧ j = m
  · obtain ⟨rfl, rfl⟩ := c
    rw [if_pos (Or.inl ⟨rfl, rfl⟩), if_pos (Or.inr ⟨rfl, by omega⟩)]
    exact hv
  · rw [if_neg (by omega), h.2 i j hij hj]
    by_cases d : i < k ∨ (i = k ∧ j < m)
    · rw [if_pos d, if_pos (by omega)]
    · rw [if_neg d, if_neg (by omega)]⟩
/-- one that is passed over stays, if it is to stay -/
theorem PI9_k {n k m : Nat} {g G cur : Nat → Int} (h : PI9 n k m g G cur) (hv : G (5 * k + m) = g (5 * k + m)) : PI9 n k (m + 1) g G cur := ⟨h.1, fun i j hij hj => by
  rw [h.2 i j hij hj]
  by_cases c : i = k ∧ j = m
  · obtain ⟨rfl, rfl⟩ := c
    rw [if_neg (by omega), if_pos (by omega), hv]
  · by_cases d : i < k ∨ (i = k ∧ j < m)
    · rw [if_pos d, if_pos (by omega)]
    · rw [if_neg d, if_neg (by omega)]⟩
theorem PI4_k {n k m : Nat} {g G cur : Nat → Int} (h : PI4 n k m g G cur) (hv : G (5 * k + m) = g (5 * k + m)) : PI4 n k (m + 1) g G cur := ⟨h.1, fun i j hij hj => by
  rw [h.2 i j hij hj]
  by_cases c : i = k ∧ j = m
  · obtain ⟨rfl, rfl⟩ := c
    rw [if_neg (by omega), if_pos (by omega), hv]
  · by_cases d : i < k ∨ (i = k ∧ j < m)
    · rw [if_pos d, if_pos (by omega)]
    · rw [if_neg d, if_neg (by omega)]⟩
theorem PI4_c {n k m : Nat} {g G cur : Nat → Int} (h : PI4 n k m g G cur) (hk : k < m) (hm : m < n) : cur (5 * k + m) = g (5 * k + m) := by
  rw [h.2 k m hk hm, if_neg (by omega)]
theorem PI9_c {n k m : Nat} {g G cur : Nat → Int} (h : PI9 n k m g G cur) (hk : m < k) (hm : k < n) : cur (5 * k + m) = g (5 * k + m) := by
  rw [h.2 k m hk hm, if_neg (by omega)]
theorem PI4_a {n k m : Nat} {g G cur : Nat → Int} (h5 : n ≤ 5) (tg : Tb g) (h : PI4 n k m g G cur) {i j : Nat} (hi : i < n) (hj : j < n) (e1 : G (5 * i + j) = g (5 * i + j)) (e2 : G (5 * j + i) = g (5 * j + i)) : cur (5 * i + j) = g (5 * i + j) := by
  have t := h.1 i j (by omega) (by omega)
  have u := tg i j (by omega) (by omega)
  by_cases c : i = j
  · subst c
    omega
  · by_cases d : i < j
    · rw [h.2 i j d hj, e1, ite_self]
    · rw [t.2.2.1, h.2 j i (by omega) hi, e2, ite_self, ← u.2.2.1]
theorem PI9_a {n k m : Nat} {g G cur : Nat → Int} (h5 : n ≤ 5) (tg : Tb g) (h : PI9 n k m g G cur) {i j : Nat} (hi : i < n) (hj : j < n) (e1 : G (5 * i + j) = g (5 * i + j)) (e2 : G (5 * j + i) = g (5 * j + i)) : cur (5 * i + j) = g (5 * i + j) := by
  have t := h.1 i j (by omega) (by omega)
  have u := tg i j (by omega) (by omega)
  by_cases c : i = j
  · subst c
    omega
  · by_cases d : j < i
    · rw [h.2 i j d hi, e1, ite_self]
    · rw [t.2.2.1, h.2 j i (by omega) hj, e2, ite_self, ← u.2.2.1]
theorem PI4_e {n m : Nat} {g G cur : Nat → Int} (h5 : n ≤ 5) (tG : Tn n G) (h : PI4 n n m g G cur) : Ag n cur G := fun i j hi hj => by
  have t := h.1 i j (by omega) (by omega)
  have u := tG i j (by omega) (by omega)
  by_cases c : i = j
  · subst c
    omega
  · by_cases d : i < j
    · rw [h.2 i j d (by omega), if_pos (by omega)]
    · rw [t.2.2.1, h.2 j i (by omega) (by omega), if_pos (by omega), ← u.2.2.1]
theorem PI9_e {n m : Nat} {g G cur : Nat → Int} (h5 : n ≤ 5) (tG : Tn n G) (h : PI9 n n m g G cur) : Ag n cur G := fun i j hi hj => by
  have t := h.1 i j (by omega) (by omega)
  have u := tG i j (by omega) (by omega)
  by_cases c : i = j
  · subst c
    omega
  · by_cases d : j < i
    · rw [h.2 i j d (by omega), if_pos (by omega)]
    · rw [t.2.2.1, h.2 j i (by omega) (by omega), if_pos (by omega), ← u.2.2.1]
theorem w_put {α : Type} {K : α → Prop} {i j : Nat} {v n : Int} {g : Nat → Int} {k : (Nat → Int) → Option α} (h : (i : Int) < n ∧ (j : Int) < n ∧ i ≠ j ∧ n ≤ 5 ∧ 3 ≤ n) (hk : wp (k (put2 g i j v)) K) : wp (bd1 (f_X4_put i j v n g) k) K := by
  rw [put_X4 (by omega) h.1 (by omega) h.2.1 (by omega) h.2.2.2.1 h.2.2.2.2, bd1_s]
  exact hk
theorem w_lays {α : Type} {K : α → Prop} {i j : Nat} {v : Int} {g : Nat → Int} {k : (Nat → Int) → Option α} (h : i < 5 ∧ j < 5) (hk : wp (k (put2 g i j v)) K) : wp (bd1 (f_X9_lays i j v g) k) K := by
  rw [lays_X9 (by omega) (by omega) (by omega) (by omega), bd1_s]
  exact hk
/-- shortened by ways through z -/
def mn (a b : Int) : Int := if a ≤ b then a else b
def shw (z : Nat) (g : Nat → Int) : Nat → Int := fun k => mn (g k) (g (5 * (k / 5) + z) + g (5 * z + k % 5))
theorem shw_at {z i j : Nat} {g : Nat → Int} (hj : j < 5) : shw z g (5 * i + j) = mn (g (5 * i + j)) (g (5 * i + z) + g (5 * z + j)) := by
  unfold shw
  rw [show (5 * i + j) / 5 = i by omega, show (5 * i + j) % 5 = j by omega]
theorem shw_T {n z : Nat} {g : Nat → Int} (h5 : n ≤ 5) (hz : z < n) (tg : Tn n g) : Tn n (shw z g) := fun i j hi hj => by
  have a := tg i j hi hj
  have b := tg i z hi hz
  have c := tg z j hz hj
  have d := tg j z hj hz
  have e := tg z i hz hi
  rw [shw_at (by omega), shw_at (by omega), shw_at (by omega)]
  unfold mn
  split <;> split <;> split <;> omega
theorem shw_c {n z : Nat} {g far : Nat → Int} (h5 : n ≤ 5) (hz : z < n) (ag : Ag n g far) : Ag n (shw z g) (shw z far) := fun i j hi hj => by
  rw [shw_at (by omega), shw_at (by omega), ag i j hi hj, ag i z hi (by omega), ag z j (by omega) hj]
def SHn (g : Nat → Int) : Nat → Nat → Int
  | 0 => g
  | z + 1 => shw z (SHn g z)
theorem SHn_T {n : Nat} {g : Nat → Int} (h5 : n ≤ 5) (tg : Tn n g) : ∀ z, z ≤ n → Tn n (SHn g z)
  | 0, _ => tg
  | z + 1, h => shw_T h5 (by omega) (SHn_T h5 tg z (by omega))
theorem SHn_c {n : Nat} {g far : Nat → Int} (h5 : n ≤ 5) (ag : Ag n g far) : ∀ z, z ≤ n → Ag n (SHn g z) (SHn far z)
  | 0, _ => ag
  | z + 1, h => shw_c h5 (by omega) (SHn_c h5 ag z (by omega))
theorem shw_z {n z i : Nat} {g : Nat → Int} (h5 : n ≤ 5) (hz : z < n) (hi : i < n) (tg : Tb g) : shw z g (5 * i + z) = g (5 * i + z) ∧ shw z g (5 * z + i) = g (5 * z + i) := by
  have a := tg i z (by omega) (by omega)
  have b := tg z i (by omega) (by omega)
  rw [shw_at (by omega), shw_at (by omega)]
  unfold mn
  split <;> split <;> omega
theorem mn_min {a b : Int} (r : 0 ≤ a ∧ a ≤ 100 ∧ 0 ≤ b ∧ b ≤ 100) : minI a b = mn a b := by
  have := minI_w (a := a) (b := b) (by omega)
  unfold mn
  split <;> omega
theorem mn_in {a b : Int} (r : 0 ≤ a ∧ a ≤ 40 ∧ 0 ≤ b) : 0 ≤ mn a b ∧ mn a b ≤ 40 := by
  unfold mn
  split <;> omega
theorem shorts_X4 {n : Nat} {g : Nat → Int} (h3 : 3 ≤ n) (h5 : n ≤ 5) (tg : Tb g) : wp (f_X4_takeShortWays n g) (fun o => Tb o ∧ Ag n o (SHn g n)) := by
  unfold f_X4_takeShortWays
  refine w_q2 (fun z v cur => v = (z : Int) ∧ Tb cur ∧ Ag n cur (SHn g z)) n 0 ⟨rfl, tg, Ag_re⟩ (by omega) (by omega) (fun z hz v cur hI nx hn => ?_) (fun v cur hI nx => ?_)
  · obtain ⟨rfl, t1, t2⟩ := hI
    refine w_ltT (by omega) ?_
    refine w_q2 (fun k v c => v = (k : Int) ∧ PI4 n k 0 cur (shw z cur) c) n 0 ⟨rfl, PI4_0 t1⟩ (by omega) (by omega) (fun k hk v c hI ny hy => ?_) (fun v c hI ny => ?_)
    · obtain ⟨rfl, p1⟩ := hI
      refine w_ltT (by omega) ?_
      refine w_l (fun x hx => ?_)
      refine w_q2 (fun m v c => v = (m : Int) ∧ k < m ∧ PI4 n k m cur (shw z cur) c) n (k + 1) ⟨by omega, by omega, PI4_b p1⟩ (by omega) (by omega) (fun m hm v c hI nw hw => ?_) (fun v c hI nw => ?_)
      · obtain ⟨rfl, km, p2⟩ := hI
        have e1 := PI4_c p2 km hm
        have z1 := shw_z h5 hz hk t1
        have z2 := shw_z h5 hz hm t1
        have e2 := PI4_a h5 t1 p2 hk hz z1.1 z1.2
        have e3 := PI4_a h5 t1 p2 hz hm z2.2 z2.1
        refine w_ltT (by omega) ?_
        refine w_gap p2.1 (by omega) (fun r1 f1 l1 u1 => ?_)
        refine w_gap p2.1 (by omega) (fun r2 f2 l2 u2 => ?_)
        refine w_gap p2.1 (by omega) (fun r3 f3 l3 u3 => ?_)
        refine w_put (by omega) ?_
        have e4 : minI r1 (r2 + r3) = shw z cur (5 * k + m) := by
          rw [mn_min (by omega), shw_at (by omega), f1, f2, f3, e1, e2, e3]
        have e5 : 0 ≤ minI r1 (r2 + r3) ∧ minI r1 (r2 + r3) ≤ 40 := by
          rw [mn_min (by omega)]
          exact mn_in (by omega)
        exact hw _ _ ⟨by omega, by omega, PI4_s h5 p2 km hm e4 e5⟩
      · obtain ⟨rfl, km, p2⟩ := hI
        refine w_ltF (by omega) ?_
        exact hy _ _ ⟨by omega, PI4_n p2⟩
    · obtain ⟨rfl, p1⟩ := hI
      refine w_ltF (by omega) ?_
      exact hn _ _ ⟨by omega, p1.1, Ag_tr (PI4_e h5 (shw_T h5 hz (Tn_of h5 t1)) p1) (shw_c h5 hz t2)⟩
  · obtain ⟨rfl, t1, t2⟩ := hI
    refine w_ltF (by omega) ?_
    exact w_s ⟨t1, t2⟩
theorem ix_r {i j : Nat} (hi : i < 5) (hj : j < 5) : ix (5 * (i : Int) + (j : Int)) = 5 * i + j := by
  rw [ix_eq (by omega) (by omega)]
  omega
theorem shorts_X9 {n : Nat} {g kp : Nat → Int} (h3 : 3 ≤ n) (h5 : n ≤ 5) (tg : Tb g) : wp (f_X9_shortens n g kp) (fun o => Tb o.2.1 ∧ Ag n o.2.1 (SHn g n) ∧ o.1 = S9 (fun i j => ne1 (g (5 * i + j)) (o.2.1 (5 * i + j))) n) := by
  unfold f_X9_shortens
  refine w_q2 (fun k v p => v = (k : Int) ∧ ∀ i, i < k → ∀ j, j < i → p (5 * i + j) = g (5 * i + j)) n 0 ⟨rfl, fa_0⟩ (by omega) (by omega) (fun k hk v p hI nx hn => ?_) (fun v p hI nx => ?_)
  · obtain ⟨rfl, t1⟩ := hI
    refine w_ltT (by omega) ?_
    refine w_q2 (fun m v p => v = (m : Int) ∧ (∀ i, i < k → ∀ j, j < i → p (5 * i + j) = g (5 * i + j)) ∧ ∀ j, j < m → p (5 * k + j) = g (5 * k + j)) k 0 ⟨rfl, t1, fa_0⟩ (by omega) (by omega) (fun m hm v p hI ny hy => ?_) (fun v p hI ny => ?_)
    · obtain ⟨rfl, t2, t3⟩ := hI
      refine w_ltT (by omega) ?_
      refine w_d tg (by omega) (fun r e l u => ?_)
      refine w_gi (by omega) ?_
      rw [ix_r (by omega) (by omega)]
      refine hy _ _ ⟨by omega, fun i hi j hj => ?_, fun j hj => ?_⟩
      · rw [up_ne _ _ (by omega)]
        exact t2 i hi j hj
      · by_cases c : j = m
        · subst c
          rw [up_eq]
          exact e
        · rw [up_ne _ _ (by omega)]
          exact t3 j (by omega)
    · obtain ⟨rfl, t2, t3⟩ := hI
      refine w_ltF (by omega) ?_
      exact hn _ _ ⟨by omega, fa_s t2 t3⟩
  · obtain ⟨rfl, t0⟩ := hI
    refine w_ltF (by omega) ?_
    refine w_q2 (fun z v cur => v = (z : Int) ∧ Tb cur ∧ Ag n cur (SHn g z)) n 0 ⟨rfl, tg, Ag_re⟩ (by omega) (by omega) (fun z hz v cur hI nx hn => ?_) (fun v cur hI nx => ?_)
    · obtain ⟨rfl, t1, t2⟩ := hI
      refine w_ltT (by omega) ?_
      refine w_q2 (fun k v c => v = (k : Int) ∧ PI9 n k 0 cur (shw z cur) c) n 0 ⟨rfl, PI9_0 t1⟩ (by omega) (by omega) (fun k hk v c hI ny hy => ?_) (fun v c hI ny => ?_)
      · obtain ⟨rfl, p1⟩ := hI
        refine w_ltT (by omega) ?_
        refine w_q2 (fun m v c => v = (m : Int) ∧ PI9 n k m cur (shw z cur) c) k 0 ⟨by omega, p1⟩ (by omega) (by omega) (fun m hm v c hI nw hw => ?_) (fun v c hI nw => ?_)
        · obtain ⟨rfl, p2⟩ := hI
          have e1 := PI9_c p2 hm hk
          have z1 := shw_z h5 hz hk t1
          have z2 := shw_z h5 hz (show m < n by omega) t1
          have e2 := PI9_a h5 t1 p2 hk hz z1.1 z1.2
          have e3 := PI9_a h5 t1 p2 hz (show m < n by omega) z2.2 z2.1
          refine w_ltT (by omega) ?_
          refine w_d p2.1 (by omega) (fun r1 f1 l1 u1 => ?_)
          refine w_d p2.1 (by omega) (fun r2 f2 l2 u2 => ?_)
          refine w_d p2.1 (by omega) (fun r3 f3 l3 u3 => ?_)
          refine w_lays (by omega) ?_
          have e4 : minI r1 (r2 + r3) = shw z cur (5 * k + m) := by
            rw [mn_min (by omega), shw_at (by omega), f1, f2, f3, e1, e2, e3]
          have e5 : 0 ≤ minI r1 (r2 + r3) ∧ minI r1 (r2 + r3) ≤ 40 := by
            rw [mn_min (by omega)]
            exact mn_in (by omega)
          exact hw _ _ ⟨by omega, PI9_s h5 p2 hm hk e4 e5⟩
        · obtain ⟨rfl, p2⟩ := hI
          refine w_ltF (by omega) ?_
          exact hy _ _ ⟨by omega, PI9_n p2⟩
      · obtain ⟨rfl, p1⟩ := hI
        refine w_ltF (by omega) ?_
        exact hn _ _ ⟨by omega, p1.1, Ag_tr (PI9_e h5 (shw_T h5 hz (Tn_of h5 t1)) p1) (shw_c h5 hz t2)⟩
    · obtain ⟨rfl, t1, t2⟩ := hI
      refine w_ltF (by omega) ?_
      refine w_q2 (fun k u v => v = (k : Int) ∧ u = sm (fun i => sm (fun j => ne1 (g (5 * i + j)) (cur (5 * i + j))) i) k ∧ 0 ≤ u ∧ u ≤ 5 * k) n 0 ⟨rfl, rfl, by omega, by omega⟩ (by omega) (by omega) (fun k hk u v hI nx hn => ?_) (fun u v hI nx => ?_)
      · obtain ⟨rfl, s1, s2, s3⟩ := hI
        refine w_ltT (by omega) ?_
        refine w_q2 (fun m u' v => v = (m : Int) ∧ u' = u + sm (fun j => ne1 (g (5 * k + j)) (cur (5 * k + j))) m ∧ 0 ≤ u' ∧ u' ≤ 5 * k + m) k 0 ⟨rfl, by simp only [sm]; omega, by omega, by omega⟩ (by omega) (by omega) (fun m hm u' v hI ny hy => ?_) (fun u' v hI ny => ?_)
        · obtain ⟨rfl, q1, q2, q3⟩ := hI
          have s := sm_s (fun j => ne1 (g (5 * k + j)) (cur (5 * k + j))) m
          have tk := tg k m (by omega) (by omega)
          refine w_ltT (by omega) ?_
          refine w_gi (by omega) ?_
          refine w_d t1 (by omega) (fun r1 e1 l1 m1 => ?_)
          rw [ix_r (by omega) (by omega), t0 k hk m hm]
          subst e1
          repeat' (first | with_reducible refine w_l (fun _ _ => ?_) | with_reducible refine w_j ?_ | with_reducible refine w_gB ?_ | with_reducible refine w_g0 ?_ | with_reducible refine w_g1 ?_ | with_reducible refine w_gi (by omega) ?_ | with_reducible refine w_ltT (by omega) ?_ | with_reducible refine w_ltF (by omega) ?_ | with_reducible refine w_lt (by omega) (fun _ => ?_) (fun _ => ?_) | with_reducible refine w_eqT (by omega) ?_ | with_reducible refine w_eqF (by omega) ?_ | with_reducible refine w_eq (by omega) (fun _ => ?_) (fun _ => ?_) | with_reducible refine w_gap (by assumption) (by omega) (fun _ _ _ _ => ?_) | with_reducible refine w_d (by assumption) (by omega) (fun _ _ _ _ => ?_) | with_reducible refine w_bI (by assumption) (fun _ _ => ?_) (fun _ _ => ?_) | with_reducible refine w_gI (by assumption) ?_ | with_reducible refine w_gn (by omega) ?_)
          · next c _ _ =>
            have := ne1_t c
            exact hy _ _ ⟨by omega, by omega, by omega, by omega⟩
          · next c _ _ =>
            have := ne1_f c
            exact hy _ _ ⟨by omega, by omega, by omega, by omega⟩
        · obtain ⟨rfl, q1, q2, q3⟩ := hI
          refine w_ltF (by omega) ?_
          exact hn _ _ ⟨by omega, by rw [sm_s]; omega, by omega, by omega⟩
      · obtain ⟨rfl, s1, s2, s3⟩ := hI
        refine w_ltF (by omega) ?_
        exact w_s ⟨t1, t2, s1⟩
