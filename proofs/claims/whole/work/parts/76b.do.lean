/-! PURE PART: one clause carried out, both -/
theorem sm_5 {f : Nat → Int} : ∀ n : Nat, (∀ i, i < n → f i ≤ 5) → sm f n ≤ 5 * n
  | 0, _ => Int.le_refl 0
  | n + 1, h => by
    have a := sm_5 n (fun i hi => h i (by omega))
    have b := h n (by omega)
    have e := sm_s f n
    omega
theorem S9_r {P : Nat → Nat → Int} {n : Nat} (h : ∀ i j, 0 ≤ P i j ∧ P i j ≤ 1) (h5 : n ≤ 5) : 0 ≤ S9 P n ∧ S9 P n ≤ 25 := by
  have q : ∀ i, i < n → 0 ≤ sm (fun j => P i j) i ∧ sm (fun j => P i j) i ≤ 5 := fun i hi => by
    have := sm_le (f := fun j => P i j) i (fun j _ => h i j)
    omega
  have a := sm_0 (f := fun i => sm (fun j => P i j) i) n (fun i hi => (q i hi).1)
  have b := sm_5 (f := fun i => sm (fun j => P i j) i) n (fun i hi => (q i hi).2)
  unfold S9
  omega
/-- done or not: the class's 1 or 0, the reference's number or refusal -/
def DN2 (a b : Int) : Prop := (a = 1 ∧ 0 ≤ b ∧ b ≤ 40) ∨ (a = 0 ∧ -2 ≤ b ∧ b < 0)
theorem DN2_1 : DN2 0 (-1) := Or.inr ⟨rfl, by decide, by decide⟩
theorem DN2_2 : DN2 0 (-2) := Or.inr ⟨rfl, by decide, by decide⟩
theorem place_two {n m p1 p2 p3 : Int} {g far : Nat → Int} (S : RTab n g m far) (g1 : rg p1) (g2 : rg p2) (g3 : rg p3) : wp (f_X2_place p1 p2 p3 n g) (fun o => wp (f_X9_set p1 p2 p3 m far) (fun o' => DN2 o.1 o'.1 ∧ RTab n o.2 m o'.2)) := by
  obtain ⟨e0, h3, h5, tg, tf, ag⟩ := S
  subst e0
  have S0 : RTab m g m far := ⟨rfl, h3, h5, tg, tf, ag⟩
  have i9 := in_X9 g3 (a := 0) (b := 40) ⟨by omega, by omega⟩ ⟨by omega, by omega⟩
  have z1 := g3.1
  have z2 := g3.2
  have no : (¬ (0 ≤ p1 ∧ p1 < m ∧ 0 ≤ p2 ∧ p2 < m ∧ p1 ≠ p2) ∨ ¬ (0 ≤ p3 ∧ p3 ≤ 40)) → wp (f_X9_set p1 p2 p3 m far) (fun o' => DN2 0 o'.1 ∧ RTab m g m o'.2) := fun f => by
    unfold f_X9_set
    refine w_b1s (areTwo_X9 g1 g2 h3 h5) ?_
    refine w_B (fun _ => w_s ⟨DN2_1, S0⟩) (fun d => ?_)
    refine w_b1s i9 ?_
    refine w_B (fun _ => w_s ⟨DN2_2, S0⟩) (fun d2 => ?_)
    exact f.elim (fun q => absurd d q) (fun q => absurd d2 q)
  unfold f_X2_place
  refine w_b1s (areTwo_X4 g1 g2 h3 h5) ?_
  refine w_j ?_
  refine w_B (fun d => w_s (no (Or.inl d))) (fun d => ?_)
  refine w_lt (by omega) (fun q => w_s (no (Or.inr (by omega)))) (fun q => ?_)
  refine w_lt (by omega) (fun q2 => w_s (no (Or.inr (by omega)))) (fun q2 => ?_)
  obtain ⟨a1, a2, a3, a4, a5⟩ := d
  obtain ⟨i, rfl⟩ := toN a1
  obtain ⟨j, rfl⟩ := toN a3
  refine w_put (by omega) ?_
  refine w_s ?_
  show wp (f_X9_set (i : Int) (j : Int) p3 m far) (fun o' => DN2 1 o'.1 ∧ RTab m (put2 g i j p3) m o'.2)
  unfold f_X9_set
  refine w_b1s (areTwo_X9 g1 g2 h3 h5) ?_
  refine w_B (fun d => absurd ⟨a1, a2, a3, a4, a5⟩ d) (fun _ => ?_)
  refine w_b1s i9 ?_
  refine w_B (fun d => absurd ⟨q, q2⟩ d) (fun _ => ?_)
  refine w_d tf (by omega) (fun r e l u => ?_)
  refine w_lays (by omega) ?_
  exact w_s ⟨Or.inl ⟨rfl, l, u⟩, rfl, h3, h5, Tb_put tg (by omega) (by omega) (by omega) q q2, Tb_put tf (by omega) (by omega) (by omega) q q2, Ag_put ag h5 (by omega) (by omega)⟩
theorem begin_two {n m p : Int} {g far nu nb im be : Nat → Int} (S : RTab n g m far) (N : RNum nu nb) (M : RMap n im be) (gp : rg p) : wp (f_X2_begin p n g nu im) (fun o => wp (f_X9_points p m far nb be) (fun o' => DN2 o.1 o'.1 ∧ RTab o.2.1 o.2.2.1 o'.2.1 o'.2.2.1 ∧ RNum o.2.2.2.1 o'.2.2.2.1 ∧ RMap o.2.1 o.2.2.2.2 o'.2.2.2.2)) := by
  obtain ⟨e0, h3, h5, tg, tf, ag⟩ := S
  subst e0
  have z1 := gp.1
  have z2 := gp.2
  by_cases c : 3 ≤ p ∧ p ≤ 5
  · obtain ⟨o, nu', im', a1, ⟨a2, a3⟩, a4⟩ := begin_X2 (s := m) (nu := nu) (im := im) c.1 c.2 tg
    obtain ⟨o', nb', be', b1, ⟨b2, b3⟩, b4⟩ := points_X9 (s := m) (nu := nb) (im := be) c.1 c.2 tf
    refine ⟨_, a1, _, b1, Or.inl ⟨rfl, ?_, ?_⟩, ⟨rfl, c.1, c.2, a2, b2, ?_⟩, ?_, ?_⟩
    · show 0 ≤ m
      omega
    · show m ≤ 40
      omega
    · show Ag p o o'
      intro i j hi hj
      obtain ⟨m1, m2, m3, m4⟩ := a2 i j (by omega) (by omega)
      obtain ⟨n1, n2, n3, n4⟩ := b2 i j (by omega) (by omega)
      by_cases e : i = j
      · subst e
        rw [m4, n4]
      · by_cases l : i < j
        · rw [a3 i j l hj, n3, b3 j i l (by omega)]
        · rw [m3, a3 j i (by omega) hi, b3 i j (by omega) (by omega)]
    · intro k hk
      show nu' k = nb' k ∧ 0 ≤ nu' k ∧ nu' k ≤ 160
      rw [(a4 k hk).1, (b4 k hk).1]
      exact ⟨rfl, by omega, by omega⟩
    · intro k hk
      show im' k = be' k ∧ 0 ≤ im' k ∧ im' k < 5 ∧ ((k : Int) < p → im' k < p)
      rw [(a4 k hk).2, (b4 k hk).2]
      exact ⟨rfl, by omega, by omega, fun q => q⟩
  · have no : wp (f_X9_points p m far nb be) (fun o' => DN2 0 o'.1 ∧ RTab m g o'.2.1 o'.2.2.1 ∧ RNum nu o'.2.2.2.1 ∧ RMap m im o'.2.2.2.2) := by
      unfold f_X9_points
      refine w_b1s (in_X9 gp (a := 3) (b := 5) ⟨by omega, by omega⟩ ⟨by omega, by omega⟩) ?_
      refine w_B (fun _ => w_s ⟨DN2_2, ⟨rfl, h3, h5, tg, tf, ag⟩, N, M⟩) (fun d => absurd d c)
    unfold f_X2_begin
    refine w_j ?_
    refine w_lt (by omega) (fun _ => w_s no) (fun q => ?_)
    exact w_ltT (by omega) (w_s no)
/-- both as they were told to be -/
def DCt (o : Int × Int × (Nat → Int) × (Nat → Int) × (Nat → Int)) (o' : Int × Int × (Nat → Int) × (Nat → Int) × (Nat → Int) × (Nat → Int)) : Prop := ((o.1 = 0 ∧ o'.1 = 0) ∨ (o.1 = 1 ∧ o'.1 = 1)) ∧ RTab o.2.1 o.2.2.1 o'.2.1 o'.2.2.1 ∧ RNum o.2.2.2.1 o'.2.2.2.1 ∧ RMap o.2.1 o.2.2.2.2 o'.2.2.2.2.1
theorem is01 {a b : Int} (h : DN2 a b) : isB a = true := by
  rcases h with ⟨h, -⟩ | ⟨h, -⟩ <;> rw [h] <;> decide
theorem dgt_r {h p : Nat} {s : Nat → Int} (d : dgt h s p) : 0 ≤ s p - 48 ∧ s p - 48 ≤ 9 := by
  have e := sgn_in (s := s) (dgt_in d)
  have d' : 48 ≤ sgn h s p ∧ sgn h s p ≤ 57 := d
  omega
theorem clause_two {h p c : Nat} {n m : Int} {s t cl to by' nm g far nu nb im be kp : Nat → Int} (T : TX h s t) (hp : p ≤ h) (hc : c < 12) (E : ∃ e : Nat, PC h s p (e : Int)) (R : RCl h s p c cl to by' nm) (S : RTab n g m far) (N : RNum nu nb) (M : RMap n im be) : wp (f_X6_doClause p h s n g nu im) (fun o => wp (f_X9_isDone c m far nb be kp cl to by' nm) (DCt o)) := by
  have h1 := T.1
  have ic : ix (c : Int) = c := ix_nat (by omega)
  have S' := S
  obtain ⟨e0, h3, h5, tg, tf, ag⟩ := S'
  obtain ⟨k, hk⟩ := toN (show 0 ≤ n by omega)
  subst hk
  subst e0
  obtain ⟨R0, R⟩ := R
  obtain ⟨e, he⟩ := E
  have p1 : (p : Int) + 1 = ((p + 1 : Nat) : Int) := by omega
  have p2 : (p : Int) + 2 = ((p + 2 : Nat) : Int) := by omega
  have p3 : (p : Int) + 3 = ((p + 3 : Nat) : Int) := by omega
  unfold f_X6_doClause
  refine w_b1 (pastClause_X6 T hp) (fun r2 hr => ?_)
  have er := PC_u hr he
  refine w_b1s (signAt_X6 T (by omega)) ?_
  rcases R with ⟨c1, f1, f2, t1, t2, q, q1, q2, q3⟩ | c1 | ⟨c1, q, q1, q2, q3⟩ | ⟨c1, f1, t1⟩ | ⟨c1, q, q1, q2, t1, u, u1, u2, u3⟩
  · rw [c1] at R0
    have q4 := q1.1
    have er2 : r2 = ((p + 3 + q : Nat) : Int) := by
      have := PC_u hr (Or.inl ⟨c1, q + 2, DN_s f1 (DN_s f2 q1), Or.inr ⟨by omega, rfl⟩⟩)
      omega
    have v1 := dgt_r f1
    have v2 := dgt_r f2
    have v3 := NV_r T q1
    refine w_eqT c1 ?_
    rw [p1, p2, p3]
    refine w_b1s (digitAt_X6 T f1) ?_
    refine w_b1s (digitAt_X6 T f2) ?_
    refine w_b1s (numberAt_X6 T q1 (by omega) er2 (by omega)) ?_
    refine w_b2 (place_two S ⟨by omega, by omega⟩ ⟨by omega, by omega⟩ ⟨by omega, by omega⟩) (fun a b hab => ?_)
    refine w_g (by obtain ⟨_, _, z⟩ := hab; exact is01 z.1) ?_
    refine w_s ?_
    unfold f_X9_isDone
    simp only [ic, R0, t1, t2, q3]
    refine w_gi (by omega) ?_
    refine w_lz ?_
    refine w_gi (by omega) ?_
    refine w_j ?_
    refine w_eqT rfl ?_
    refine w_gi (by omega) ?_
    refine w_gi (by omega) ?_
    refine w_b2 hab (fun a' b' hq => ?_)
    refine w_j ?_
    obtain ⟨hd, hS⟩ := hq
    rcases hd with ⟨d1, d2, d3⟩ | ⟨d1, d2, d3⟩
    · have d2' : 0 ≤ a' := d2
      have d3' : a' ≤ 40 := d3
      exact w_ltF (by omega) (w_g1 (w_s ⟨Or.inr ⟨d1, rfl⟩, hS, N, M⟩))
    · have d2' : -2 ≤ a' := d2
      have d3' : a' < 0 := d3
      exact w_ltT (by omega) (w_g0 (w_s ⟨Or.inl ⟨d1, rfl⟩, hS, N, M⟩))
  · rw [c1] at R0
    refine w_eqF (by omega) ?_
    refine w_eqT c1 ?_
    refine w_b1 (shorts_X4 (n := k) (by omega) (by omega) tg) (fun o ho => ?_)
    refine w_s ?_
    unfold f_X9_isDone
    simp only [ic, R0]
    refine w_gi (by omega) ?_
    refine w_lz ?_
    refine w_gi (by omega) ?_
    refine w_j ?_
    refine w_eqF (by omega) ?_
    refine w_eqT rfl ?_
    have k9 : wp (f_X9_shorten (k : Int) far kp) (fun o => Tb o.2.1 ∧ Ag k o.2.1 (SHn far k) ∧ 0 ≤ o.1 ∧ o.1 ≤ 25) := by
      unfold f_X9_shorten
      refine w_b3 (shorts_X9 (by omega) (by omega) tf) (fun a b d q => w_s ⟨q.1, q.2.1, ?_⟩)
      have e1 : a = S9 (fun i j => ne1 (far (5 * i + j)) (b (5 * i + j))) k := q.2.2
      rw [e1]
      exact S9_r (fun i j => ne1_in _ _) (by omega)
    refine w_b3 k9 (fun a b d q => ?_)
    obtain ⟨d1, d2, d3, d4⟩ := q
    have d3' : 0 ≤ a := d3
    have d4' : a ≤ 25 := d4
    refine w_j ?_
    refine w_ltF (by omega) (w_g1 (w_s ⟨Or.inr ⟨rfl, rfl⟩, ⟨rfl, h3, h5, ho.1, d1, ?_⟩, N, M⟩))
    exact Ag_tr ho.2 (Ag_tr (SHn_c (by omega) ag k (Nat.le_refl _)) (Ag_sym d2))
  · rw [c1] at R0
    have q4 := q1.1
    have er2 : r2 = ((p + 1 + q : Nat) : Int) := by
      have := PC_u hr (Or.inr (Or.inr (Or.inl ⟨c1, q, q1, Or.inr ⟨by omega, rfl⟩⟩)))
      omega
    have v3 := NV_r T q1
    refine w_eqF (by omega) ?_
    refine w_eqF (by omega) ?_
    refine w_eqT c1 ?_
    rw [p1]
    refine w_b1s (numberAt_X6 T q1 (by omega) er2 (by omega)) ?_
    refine w_b1 (multiply_X2 (n := k) (by omega) (by omega) tg v3) (fun o ho => ?_)
    refine w_s ?_
    refine w_m (done_109 (by omega) (by omega) hc tf R0 (by rw [q3]; exact v3)) (fun o' h' => ?_)
    obtain ⟨d1, d2, ⟨d3, d4⟩, d5, d6⟩ := h'
    rw [q3] at d4
    refine ⟨Or.inr ⟨rfl, d1⟩, ⟨d2, h3, h5, ho.1, d3, ?_⟩, ?_, ?_⟩
    · exact Ag_tr ho.2 (Ag_tr (mpw_c ag) (Ag_sym d4))
    · rw [d5]
      exact N
    · rw [d6]
      exact M
  · rw [c1] at R0
    have v1 := dgt_r f1
    refine w_eqF (by omega) ?_
    refine w_eqF (by omega) ?_
    refine w_eqF (by omega) ?_
    refine w_eqT c1 ?_
    rw [p1]
    refine w_b1s (digitAt_X6 T f1) ?_
    refine w_b5 (begin_two S N M ⟨by omega, by omega⟩) (fun a b d f i hab => ?_)
    refine w_g (by obtain ⟨_, _, z⟩ := hab; exact is01 z.1) ?_
    refine w_s ?_
    unfold f_X9_isDone
    simp only [ic, R0, t1]
    refine w_gi (by omega) ?_
    refine w_lz ?_
    refine w_gi (by omega) ?_
    refine w_j ?_
    refine w_eqF (by omega) ?_
    refine w_eqF (by omega) ?_
    refine w_eqT rfl ?_
    refine w_gi (by omega) ?_
    refine w_b5 hab (fun a' b' d' f' i' hq => ?_)
    refine w_j ?_
    obtain ⟨hd, hS⟩ := hq
    rcases hd with ⟨d1, d2, d3⟩ | ⟨d1, d2, d3⟩
    · have d2' : 0 ≤ a' := d2
      have d3' : a' ≤ 40 := d3
      exact w_ltF (by omega) (w_g1 (w_s ⟨Or.inr ⟨d1, rfl⟩, hS⟩))
    · have d2' : -2 ≤ a' := d2
      have d3' : a' < 0 := d3
      exact w_ltT (by omega) (w_g0 (w_s ⟨Or.inl ⟨d1, rfl⟩, hS⟩))
  · have R0' := R0
    rw [c1] at R0'
    have q4 := q1.1
    have u4 := u1.1
    have v3 := NV_r T u1
    obtain ⟨h32, er2⟩ : sgn h s (p + 1 + q) = 32 ∧ r2 = ((p + 1 + q + 1 + u : Nat) : Int) := by
      rcases hr with ⟨a1, -⟩ | ⟨a1, -⟩ | ⟨a1, -⟩ | ⟨a1, -⟩ | ⟨-, n', n1, a⟩ | ⟨-, -, -, -, a1, -⟩ <;> try omega
      have en := DN_u n1 q1
      subst en
      rcases a with ⟨b1, b⟩ | ⟨b1, b2, b⟩ | ⟨b1, b2, b⟩
      · omega
      · omega
      · have := PD_u b ⟨u, u1, Or.inr ⟨u2, rfl⟩⟩
        exact ⟨b2, this⟩
    refine w_eqF (by omega) ?_
    refine w_eqF (by omega) ?_
    refine w_eqF (by omega) ?_
    refine w_eqF (by omega) ?_
    refine w_eqT c1 ?_
    rw [p1]
    have kk : wp (f_X6_doSetApart ((p + 1 : Nat) : Int) r2 h s k g) (fun o => (ltI (BM s (p + 1) q) (shlI 1 k) = true ∧ o.1 = 1 ∧ Tb o.2 ∧ Ag k o.2 (apw (BM s (p + 1) q) (NV s (p + 1 + q + 1) u) g)) ∨ (ltI (BM s (p + 1) q) (shlI 1 k) = false ∧ o.1 = 0 ∧ o.2 = g)) := by
      rw [er2]
      refine w_apart T q1 h32 u1 u2 (by omega) ?_
      refine w_b2 (apart_X2 (n := k) (by omega) (by omega) tg v3) (fun a b hab => ?_)
      refine w_g ?_ (w_s hab)
      rcases hab with ⟨-, z, -⟩ | ⟨-, z, -⟩ <;> rw [show a = _ from z] <;> decide
    refine w_b2 kk (fun a b hab => ?_)
    refine w_g (by rcases hab with ⟨-, z, -⟩ | ⟨-, z, -⟩ <;> rw [show a = _ from z] <;> decide) ?_
    refine w_s ?_
    refine w_m (done_115 (n := k) (by omega) (by omega) hc tf R0' (by rw [u3]; exact v3)) (fun o' h' => ?_)
    obtain ⟨d1, d2, d3, d4⟩ := h'
    rw [t1, u3] at d4
    rcases hab with ⟨z1, z2, z3, z4⟩ | ⟨z1, z2, z3⟩ <;> rcases d4 with ⟨y1, y2, y3, y4⟩ | ⟨y1, y2, y3⟩
    · refine ⟨Or.inr ⟨z2, y2⟩, ⟨d1, h3, h5, z3, y3, ?_⟩, by rw [d2]; exact N, by rw [d3]; exact M⟩
      exact Ag_tr z4 (Ag_tr (apw_c (by omega) ag) (Ag_sym y4))
    · exact absurd (z1.symm.trans y1) (by decide)
    · exact absurd (z1.symm.trans y1) (by decide)
    · have z3' : b = g := z3
      subst z3'
      refine ⟨Or.inl ⟨z2, y2⟩, ?_, by rw [d2]; exact N, by rw [d3]; exact M⟩
      rw [d1, y3]
      exact S
