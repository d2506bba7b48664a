/-! PURE PART: the reference lays its corners -/
theorem pig3 : ∀ a b c d : Fin 3, a = b ∨ a = c ∨ a = d ∨ b = c ∨ b = d ∨ c = d := by decide +kernel
theorem pig5 : ∀ a b c d e f : Fin 5, a = b ∨ a = c ∨ a = d ∨ a = e ∨ a = f ∨ b = c ∨ b = d ∨ b = e ∨ b = f ∨ c = d ∨ c = e ∨ c = f ∨ d = e ∨ d = f ∨ e = f := by decide +kernel
theorem pig {n : Nat} {s : Nat → Nat} (h3 : 3 ≤ n) (h5 : n ≤ 5) (hs : ∀ x, x < n → s x < n) {x : Nat} (hx : x < n) : ∃ i j, i < j ∧ j ≤ n ∧ itf s i x = itf s j x := by
  have l : ∀ k, itf s k x < n := fun k => itf_lt hs k x hx
  have hn : n = 3 ∨ n = 4 ∨ n = 5 := by omega
  rcases hn with rfl | rfl | rfl
  · rcases pig3 ⟨_, l 0⟩ ⟨_, l 1⟩ ⟨_, l 2⟩ ⟨_, l 3⟩ with h | h | h | h | h | h
    · exact ⟨0, 1, by omega, by omega, congrArg Fin.val h⟩
    · exact ⟨0, 2, by omega, by omega, congrArg Fin.val h⟩
    · exact ⟨0, 3, by omega, by omega, congrArg Fin.val h⟩
    · exact ⟨1, 2, by omega, by omega, congrArg Fin.val h⟩
    · exact ⟨1, 3, by omega, by omega, congrArg Fin.val h⟩
    · exact ⟨2, 3, by omega, by omega, congrArg Fin.val h⟩
  · rcases no4f ⟨_, l 0⟩ ⟨_, l 1⟩ ⟨_, l 2⟩ ⟨_, l 3⟩ ⟨_, l 4⟩ with h | h | h | h | h | h | h | h | h | h
    · exact ⟨0, 1, by omega, by omega, congrArg Fin.val h⟩
    · exact ⟨0, 2, by omega, by omega, congrArg Fin.val h⟩
    · exact ⟨0, 3, by omega, by omega, congrArg Fin.val h⟩
    · exact ⟨0, 4, by omega, by omega, congrArg Fin.val h⟩
    · exact ⟨1, 2, by omega, by omega, congrArg Fin.val h⟩
    · exact ⟨1, 3, by omega, by omega, congrArg Fin.val h⟩
    · exact ⟨1, 4, by omega, by omega, congrArg Fin.val h⟩
    · exact ⟨2, 3, by omega, by omega, congrArg Fin.val h⟩
    · exact ⟨2, 4, by omega, by omega, congrArg Fin.val h⟩
    · exact ⟨3, 4, by omega, by omega, congrArg Fin.val h⟩
  · rcases pig5 ⟨_, l 0⟩ ⟨_, l 1⟩ ⟨_, l 2⟩ ⟨_, l 3⟩ ⟨_, l 4⟩ ⟨_, l 5⟩ with h | h | h | h | h | h | h | h | h | h | h | h | h | h | h
    · exact ⟨0, 1, by omega, by omega, congrArg Fin.val h⟩
    · exact ⟨0, 2, by omega, by omega, congrArg Fin.val h⟩
    · exact ⟨0, 3, by omega, by omega, congrArg Fin.val h⟩
    · exact ⟨0, 4, by omega, by omega, congrArg Fin.val h⟩
    · exact ⟨0, 5, by omega, by omega, congrArg Fin.val h⟩
    · exact ⟨1, 2, by omega, by omega, congrArg Fin.val h⟩
    · exact ⟨1, 3, by omega, by omega, congrArg Fin.val h⟩
    · exact ⟨1, 4, by omega, by omega, congrArg Fin.val h⟩
    · exact ⟨1, 5, by omega, by omega, congrArg Fin.val h⟩
    · exact ⟨2, 3, by omega, by omega, congrArg Fin.val h⟩
    · exact ⟨2, 4, by omega, by omega, congrArg Fin.val h⟩
    · exact ⟨2, 5, by omega, by omega, congrArg Fin.val h⟩
    · exact ⟨3, 4, by omega, by omega, congrArg Fin.val h⟩
    · exact ⟨3, 5, by omega, by omega, congrArg Fin.val h⟩
    · exact ⟨4, 5, by omega, by omega, congrArg Fin.val h⟩
theorem least_L {s : Nat → Nat} {y : Nat} : ∀ P : Nat, 0 < P → itf s P y = y → ∃ L, 0 < L ∧ L ≤ P ∧ itf s L y = y ∧ ∀ j, 0 < j → j < L → itf s j y ≠ y := by
  intro P
  induction P using Nat.strongRecOn with
  | _ P ih =>
    intro hP e
    by_cases c : ∃ j, 0 < j ∧ j < P ∧ itf s j y = y
    · obtain ⟨j, j1, j2, j3⟩ := c
      obtain ⟨L, a1, a2, a3, a4⟩ := ih j j2 j1 j3
      exact ⟨L, a1, by omega, a3, a4⟩
    · exact ⟨P, hP, Nat.le_refl _, e, fun j j1 j2 q => c ⟨j, j1, j2, q⟩⟩
theorem per_all {n : Nat} {s : Nat → Nat} (h3 : 3 ≤ n) (h5 : n ≤ 5) (hs : ∀ x, x < n → s x < n) : ∀ x, x < n → ∃ L, 0 < L ∧ L ≤ 5 ∧ CYC s n x L := by
  intro x hx
  obtain ⟨i, j, ij, jn', e⟩ := pig h3 h5 hs hx
  have p : itf s (j - i) (itf s n x) = itf s n x := by
    rw [← itf_add, show j - i + n = (n - i) + j by omega, itf_add, ← e, ← itf_add, show n - i + i = n by omega]
  obtain ⟨L, a1, a2, a3, a4⟩ := least_L (j - i) (by omega) p
  exact ⟨L, a1, by omega, a3, a4⟩
def nxt (n o x : Nat) : Nat := o / n ^ x % n
theorem nxt_lt {n o x : Nat} (h : 0 < n) : nxt n o x < n := Nat.mod_lt _ h
theorem orders_X9 {n : Nat} (h3 : 3 ≤ n) (h5 : n ≤ 5) : f_X9_orders n = some ((n ^ n : Nat) : Int) := by
  refine wp_e ?_
  unfold f_X9_orders
  have lim : ∀ k, k ≤ n → n ^ k ≤ 3125 := fun k hk => Nat.le_trans (Nat.pow_le_pow_left h5 k) (Nat.le_trans (Nat.pow_le_pow_right (n := 5) (by omega) (show k ≤ 5 by omega)) (by decide))
  refine w_q2 (fun k u v => v = (k : Int) ∧ u = ((n ^ k : Nat) : Int)) n 0 ⟨rfl, rfl⟩ (by omega) (by omega) (fun k hk u v hI nx hn => ?_) (fun u v hI nx => ?_)
  · obtain ⟨rfl, rfl⟩ := hI
    refine w_ltT (by omega) ?_
    refine w_lz ?_
    refine hn _ _ ⟨by omega, ?_⟩
    rw [Nat.pow_succ, Int.natCast_mul]
  · obtain ⟨rfl, rfl⟩ := hI
    refine w_ltF (by omega) ?_
    exact w_s rfl
theorem nn_le {n : Nat} (h5 : n ≤ 5) : n ^ n ≤ 3125 := Nat.le_trans (Nat.pow_le_pow_left h5 n) (Nat.le_trans (Nat.pow_le_pow_right (n := 5) (by omega) h5) (by decide))
theorem lay_X9 {n : Nat} {c0 : Int} {far cor nm t0 : Nat → Int} (h3 : 3 ≤ n) (h5 : n ≤ 5) (tf : Tb far) (T : TAB n far) : wp (f_X9_layCorners n c0 far cor nm t0) (fun o => ∃ (h : Nat) (c : Nat → Nat), o.1 = h ∧ h ≤ 37 ∧ SL h c (CSv n far) ∧ RowL n h o.2.1 c) := by
  unfold f_X9_layCorners
  obtain ⟨H, C, H37, HS, -⟩ := SL_37 h3 h5 tf T
  have lim := nn_le h5
  refine w_q5 (fun o v h cor nm t => v = (o : Int) ∧ ∃ (hh : Nat) (c : Nat → Nat) (S : Nat → Prop), h = hh ∧ SL hh c S ∧ RowL n hh cor c ∧ (∀ v, S v → CSv n far v) ∧ ∀ o', o' < o → ∀ f, CORNs n far f (nxt n o') → S (kcode n f)) (n ^ n) 0 ⟨rfl, 0, fun _ => 0, fun _ => False, rfl, SL_0, fun i hi => absurd hi (Nat.not_lt_zero _), fun v q => q.elim, fa_0⟩ (by omega) (by omega) (fun o ho v h cor nm t hI nx hn => ?_) (fun v h cor nm t hI nx => ?_)
  · obtain ⟨rfl, hh, c, S, rfl, t1, t2, t3, t4⟩ := hI
    have h37 : hh ≤ 37 := Nat.le_trans (SL_le t1 HS t3) H37
    refine w_b1s (orders_X9 h3 h5) ?_
    refine w_ltT (by omega) ?_
    refine w_q3 (fun k r v nm => v = (k : Int) ∧ r = ((o / n ^ k : Nat) : Int) ∧ ∀ x, x < k → nm x = (nxt n o x : Int)) n 0 ⟨rfl, by rw [Nat.pow_zero, Nat.div_one], fa_0⟩ (by omega) (by omega) (fun k hk r v nm hI ny hy => ?_) (fun r v nm hI ny => ?_)
    · obtain ⟨rfl, rfl, u1⟩ := hI
      have l : o / n ^ k ≤ o := Nat.div_le_self _ _
      refine w_ltT (by omega) ?_
      refine w_gn (by omega) ?_
      refine w_lz ?_
      refine w_gi (by omega) ?_
      refine w_gn (by omega) ?_
      refine w_lz ?_
      rw [rem_nat (by omega) (by omega), div_nat (by omega) (by omega), ix_nat (show k < 2147483648 by omega)]
      refine hy _ _ _ ⟨by omega, by rw [Nat.div_div_eq_div_mul, ← Nat.pow_succ], fun x hx => ?_⟩
      by_cases e : x = k
      · rw [e, up_eq]
        rfl
      · rw [up_ne _ _ e]
        exact u1 x (by omega)
    · obtain ⟨rfl, rfl, u1⟩ := hI
      refine w_ltF (by omega) ?_
      have sl : ∀ x, x < n → nxt n o x < n := fun x _ => nxt_lt (by omega)
      refine w_b2 (tries_X9 h3 h5 tf sl u1 (per_all h3 h5 sl)) (fun a b hab => ?_)
      obtain ⟨p1, p2, p3⟩ := hab
      refine w_j ?_
      rcases p1 with p1 | p1
      · have p1' : a = 0 := p1
        subst p1'
        refine w_eqT rfl ?_
        exact hn _ _ _ _ _ ⟨by omega, hh, c, S, rfl, t1, t2, t3, fa_s t4 (fun f cf => absurd (show (0 : Int) = 1 from (p3 f cf).1) (by decide))⟩
      · have p1' : a = 1 := p1
        subst p1'
        have co : CORN n far b := p2 rfl
        refine w_eqF (by omega) ?_
        refine w_b2 (comes_X9 h5 (by omega) co.1 t2 t1.1) (fun x y hxy => ?_)
        obtain ⟨h', c', e1, e2, e3⟩ := hxy
        have si := SL_ins t1 e2
        refine hn _ _ _ _ _ ⟨by omega, h', c', _, e1, si.1, e3, fun v q => ?_, fa_s (fun o' ho' f cf => Or.inl (t4 o' ho' f cf)) (fun f cf => Or.inr (kcode_c (fun x hx => ((p3 f cf).2 x hx).symm)))⟩
        rcases q with q | q
        · exact t3 v q
        · exact ⟨b, co, q⟩
  · obtain ⟨rfl, hh, c, S, rfl, t1, t2, t3, t4⟩ := hI
    refine w_b1s (orders_X9 h3 h5) ?_
    refine w_ltF (by omega) ?_
    have all : ∀ v, S v ↔ CSv n far v := by
      intro v
      refine ⟨t3 v, ?_⟩
      rintro ⟨f, ⟨f8, K, s, S1, R⟩, rfl⟩
      have ex : ∃ o, o < n ^ n ∧ ∀ x, x < n → nxt n o x = s x := by
        have a0 := (S1 0 (by omega)).1
        have a1 := (S1 1 (by omega)).1
        have a2 := (S1 2 (by omega)).1
        have hn : n = 3 ∨ n = 4 ∨ n = 5 := by omega
        unfold nxt
        rcases hn with rfl | rfl | rfl
        · refine ⟨s 0 + 3 * s 1 + 9 * s 2, by show _ < 27; omega, fun x hx => ?_⟩
          have : x = 0 ∨ x = 1 ∨ x = 2 := by omega
          rcases this with rfl | rfl | rfl
          · show _ / 1 % 3 = _
            omega
          · show _ / 3 % 3 = _
            omega
          · show _ / 9 % 3 = _
            omega
        · have a3 := (S1 3 (by omega)).1
          refine ⟨s 0 + 4 * s 1 + 16 * s 2 + 64 * s 3, by show _ < 256; omega, fun x hx => ?_⟩
          have : x = 0 ∨ x = 1 ∨ x = 2 ∨ x = 3 := by omega
          rcases this with rfl | rfl | rfl | rfl
          · show _ / 1 % 4 = _
            omega
          · show _ / 4 % 4 = _
            omega
          · show _ / 16 % 4 = _
            omega
          · show _ / 64 % 4 = _
            omega
        · have a3 := (S1 3 (by omega)).1
          have a4 := (S1 4 (by omega)).1
          refine ⟨s 0 + 5 * s 1 + 25 * s 2 + 125 * s 3 + 625 * s 4, by show _ < 3125; omega, fun x hx => ?_⟩
          have : x = 0 ∨ x = 1 ∨ x = 2 ∨ x = 3 ∨ x = 4 := by omega
          rcases this with rfl | rfl | rfl | rfl | rfl
          · show _ / 1 % 5 = _
            omega
          · show _ / 5 % 5 = _
            omega
          · show _ / 25 % 5 = _
            omega
          · show _ / 125 % 5 = _
            omega
          · show _ / 625 % 5 = _
            omega
      obtain ⟨o, o1, o2⟩ := ex
      have it : ∀ k x, x < n → itf (nxt n o) k x = itf s k x := by
        intro k
        induction k with
        | zero => exact fun x _ => rfl
        | succ k ih =>
          intro x hx
          show nxt n o (itf (nxt n o) k x) = s (itf s k x)
          rw [ih x hx, o2 _ (itf_lt (fun y hy => (S1 y hy).1) k x hx)]
      refine t4 o o1 f ⟨f8, K, fun x hx => by rw [o2 x hx]; exact (S1 x hx).2, fun x hx => ?_⟩
      obtain ⟨L, L1, L2, L3, L4⟩ := R x hx
      have yl := itf_lt (fun y hy => (S1 y hy).1) n x hx
      refine ⟨L, L1, ?_, fun j j1 j2 => ?_⟩
      · rw [it n x hx, it L _ yl]
        exact L3
      · rw [it n x hx, it j _ yl]
        exact L4 j j1 j2
    exact w_s ⟨hh, c, rfl, Nat.le_trans (SL_le t1 HS t3) H37, SL_c t1 all, t2⟩
/-- what the reference's corners tell -/
def HUR (n : Nat) (far : Nat → Int) (held : Int) (cor : Nat → Int) : Prop := ∃ (h : Nat) (c : Nat → Nat), held = h ∧ h ≤ 37 ∧ SL h c (CSv n far) ∧ RowL n h cor c
theorem isTable_X9 {n : Nat} {c0 : Int} {far cor nm t0 : Nat → Int} (h3 : 3 ≤ n) (h5 : n ≤ 5) (tf : Tb far) : wp (f_X9_isTable n c0 far cor nm t0) (fun o => bI o.1 (TAB n far) ∧ (TAB n far → HUR n far o.2.1 o.2.2.1)) := by
  unfold f_X9_isTable
  refine w_b1 (barred_X9 h5 tf) (fun r hr => ?_)
  have fb := FB_tab h5 hr
  refine w_j ?_
  refine w_lt (by omega) (fun c => ?_) (fun c => ?_)
  · have T : TAB n far := by rcases fb with q | q; exact q.2; omega
    refine w_j ?_
    refine w_eqF (by omega) ?_
    refine w_b4 (lay_X9 h3 h5 tf T) (fun x1 x2 x3 x4 hx => ?_)
    exact w_g1 (w_s ⟨bI_1 T, fun _ => hx⟩)
  · have nT : ¬ TAB n far := by rcases fb with q | q; omega; exact q.2.2
    refine w_j ?_
    refine w_eqT rfl ?_
    exact w_g0 (w_s ⟨bI_0 nT, fun q => absurd q nT⟩)
