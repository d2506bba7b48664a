/-! PURE PART: all clauses of a text, where they begin and end -/
theorem w_q6 {A1 A2 A3 A4 A5 A6 α : Type} {K : α → Prop} {f : (A1 → A2 → A3 → A4 → A5 → A6 → Option α) → A1 → A2 → A3 → A4 → A5 → A6 → Option α} {N : Nat} {a1 : A1} {a2 : A2} {a3 : A3} {a4 : A4} {a5 : A5} {a6 : A6} (I : Nat → A1 → A2 → A3 → A4 → A5 → A6 → Prop) (b k : Nat) (hI : I k a1 a2 a3 a4 a5 a6) (hk : k ≤ b) (hN : b - k < N) (hs : ∀ k, k < b → ∀ a1 a2 a3 a4 a5 a6, I k a1 a2 a3 a4 a5 a6 → ∀ nx, (∀ c1 c2 c3 c4 c5 c6, I (k + 1) c1 c2 c3 c4 c5 c6 → wp (nx c1 c2 c3 c4 c5 c6) K) → wp (f nx a1 a2 a3 a4 a5 a6) K) (he : ∀ a1 a2 a3 a4 a5 a6, I b a1 a2 a3 a4 a5 a6 → ∀ nx, wp (f nx a1 a2 a3 a4 a5 a6) K) : wp (lq6 f N a1 a2 a3 a4 a5 a6) K := lq6_P I (fun u => wp u K) b hs he N k a1 a2 a3 a4 a5 a6 hI hk hN
/-- the first k clauses end before a `;` -/
def CHn (h : Nat) (s : Nat → Int) (k : Nat) (P : Nat → Nat) : Prop := P 0 = 0 ∧ ∀ j, j < k → ∃ e : Nat, PC h s (P j) (e : Int) ∧ sgn h s e = 59 ∧ P (j + 1) = e + 1
/-- so the text ends: by a fault at e (ok 0), or without one (ok 1) -/
def SPt (h : Nat) (s : Nat → Int) (k : Nat) (P : Nat → Nat) (e : Nat) (ok : Int) : Prop := CHn h s k P ∧ k < 12 ∧ ((ok = 0 ∧ PC h s (P k) (-1 - (e : Int))) ∨ (ok = 1 ∧ PC h s (P k) (e : Int) ∧ e ≤ h ∧ (sgn h s e ≠ 59 ∨ k = 11)))
theorem CHn_u {h k k' : Nat} {s : Nat → Int} {P P' : Nat → Nat} (a : CHn h s k P) (b : CHn h s k' P') : ∀ j, j ≤ k → j ≤ k' → P j = P' j
  | 0, _, _ => a.1.trans b.1.symm
  | j + 1, h1, h2 => by
    have e := CHn_u a b j (by omega) (by omega)
    obtain ⟨c, c1, c2, c3⟩ := a.2 j (by omega)
    obtain ⟨d, d1, d2, d3⟩ := b.2 j (by omega)
    rw [← e] at d1
    have := PC_u c1 d1
    omega
theorem SPt_n {h k k' e e' : Nat} {s : Nat → Int} {P P' : Nat → Nat} {ok ok' : Int} (a : SPt h s k P e ok) (b : SPt h s k' P' e' ok') : ¬ k < k' := fun c => by
  obtain ⟨a1, a2, a3⟩ := a
  obtain ⟨b1, b2, b3⟩ := b
  have q := CHn_u a1 b1 k (by omega) (by omega)
  obtain ⟨d, d1, d2, d3⟩ := b1.2 k c
  rw [← q] at d1
  rcases a3 with ⟨z1, z2⟩ | ⟨z1, z2, z3, z4⟩
  · have := PC_u z2 d1
    omega
  · have := PC_u z2 d1
    have ed : e = d := by omega
    subst ed
    rcases z4 with z | z
    · exact z d2
    · omega
theorem SPt_u {h k k' e e' : Nat} {s : Nat → Int} {P P' : Nat → Nat} {ok ok' : Int} (a : SPt h s k P e ok) (b : SPt h s k' P' e' ok') : k = k' ∧ e = e' ∧ ok = ok' ∧ ∀ j, j ≤ k → P j = P' j := by
  have n1 := SPt_n a b
  have n2 := SPt_n b a
  have e1 : k = k' := by omega
  subst e1
  have q := CHn_u a.1 b.1
  obtain ⟨a1, a2, a3⟩ := a
  obtain ⟨b1, b2, b3⟩ := b
  rw [← q k (Nat.le_refl _) (Nat.le_refl _)] at b3
  have m : e = e' ∧ ok = ok' := by
    rcases a3 with ⟨z1, z2⟩ | ⟨z1, z2, z3, z4⟩ <;> rcases b3 with ⟨y1, y2⟩ | ⟨y1, y2, y3, y4⟩ <;> have := PC_u z2 y2 <;> omega
  exact ⟨rfl, m.1, m.2, fun j hj => q j hj hj⟩
theorem PD_b {h p lo hi : Nat} {s : Nat → Int} {r : Int} (hp : p ≤ 300) (hl : 1 ≤ lo) (hh : hi ≤ 4) (a : PD h s p lo hi r) : -400 ≤ r ∧ r ≤ h := by
  obtain ⟨n, n1, n2⟩ := a
  have n3 := n1.1
  rcases n2 with ⟨n2, rfl⟩ | ⟨n2, rfl⟩
  · omega
  · have := DN_e n1 (by omega)
    omega
theorem sgn_lt {h e : Nat} {s : Nat → Int} (g : 0 ≤ sgn h s e) : e < h := by
  by_cases c : e < h
  · exact c
  · have := sgn_out (s := s) (show h ≤ e by omega)
    omega
theorem PC_b {h p : Nat} {s t : Nat → Int} {r : Int} (T : TX h s t) (hp : p ≤ h) (a : PC h s p r) : -400 ≤ r ∧ r ≤ h := by
  have h1 := T.1
  rcases a with ⟨a1, a⟩ | ⟨a1, rfl⟩ | ⟨a1, a⟩ | ⟨a1, a⟩ | ⟨a1, n, n1, a⟩ | ⟨a1, a2, a3, a4, a5, a⟩
  · exact PD_b (by omega) (by omega) (by omega) a
  · have := sgn_lt (s := s) (show 0 ≤ sgn h s p by omega)
    omega
  · exact PD_b (by omega) (by omega) (by omega) a
  · exact PD_b (by omega) (by omega) (by omega) a
  · have n3 := n1.1
    rcases a with ⟨b1, b⟩ | ⟨b1, b2, b⟩ | ⟨b1, b2, b⟩
    · omega
    · omega
    · exact PD_b (by omega) (by omega) (by omega) b
  · omega
def PX (P : Nat → Nat) (k v : Nat) : Nat → Nat := fun j => if j ≤ k then P j else v
theorem PX_o {P : Nat → Nat} {k v j : Nat} (h : j ≤ k) : PX P k v j = P j := if_pos h
theorem PX_n {P : Nat → Nat} {k v : Nat} : PX P k v (k + 1) = v := if_neg (by omega)
theorem CHn_s {h k e : Nat} {s : Nat → Int} {P : Nat → Nat} (a : CHn h s k P) (b : PC h s (P k) (e : Int)) (c : sgn h s e = 59) : CHn h s (k + 1) (PX P k (e + 1)) := by
  refine ⟨(PX_o (Nat.zero_le _)).trans a.1, fun j hj => ?_⟩
  rw [PX_o (show j ≤ k by omega)]
  by_cases q : j = k
  · subst q
    exact ⟨e, b, c, PX_n⟩
  · rw [PX_o (show j + 1 ≤ k by omega)]
    exact a.2 j (by omega)
/-- what the class's walk comes to -/
def CFt (h : Nat) (s : Nat → Int) (o : Int × Int × (Nat → Int)) : Prop := ∃ (k : Nat) (P : Nat → Nat) (e : Nat) (ok : Int), SPt h s k P e ok ∧ (∀ j, j ≤ k → o.2.2 j = ((P j : Nat) : Int) ∧ P j ≤ h) ∧ ((ok = 1 ∧ e = h ∧ o.1 = -1 ∧ o.2.1 = ((k + 1 : Nat) : Int)) ∨ ((ok = 0 ∨ e < h) ∧ o.1 = (e : Int)))
theorem firstFault_X6 {h : Nat} {s t st : Nat → Int} {cl : Int} (T : TX h s t) : wp (f_X6_firstFault h cl s st) (CFt h s) := by
  have h1 := T.1
  unfold f_X6_firstFault
  refine w_q4 (fun k v1 v2 cl st => ∃ P : Nat → Nat, CHn h s k P ∧ v1 = ((P k : Nat) : Int) ∧ P k ≤ h ∧ v2 = (k : Int) ∧ cl = (k : Int) ∧ ∀ j, j < k → st j = ((P j : Nat) : Int) ∧ P j ≤ h) 12 0 ⟨fun _ => 0, ⟨rfl, fa_0⟩, rfl, Nat.zero_le _, rfl, rfl, fa_0⟩ (by omega) (by omega) (fun k hk v1 v2 cl st hI nx hn => ?_) (fun v1 v2 cl st hI nx => ?_)
  · obtain ⟨P, c1, e1, c2, e2, e3, c3⟩ := hI
    subst e1
    subst e2
    subst e3
    refine w_ltT (by omega) ?_
    refine w_gi (by omega) ?_
    rw [ix_nat (show k < 2147483648 by omega)]
    refine w_b1 (pastClause_X6 T c2) (fun r hr => ?_)
    have rb := PC_b T c2 hr
    have c4 : ∀ j, j ≤ k → up st k ((P k : Nat) : Int) j = ((P j : Nat) : Int) ∧ P j ≤ h := fun j hj => by
      by_cases q : j = k
      · subst q
        exact ⟨up_c, c2⟩
      · rw [up_ne _ _ q]
        exact c3 j (by omega)
    refine w_lt (by omega) (fun d => ?_) (fun d => ?_)
    · obtain ⟨e, he⟩ := toN (show 0 ≤ -1 - r by omega)
      have er : r = -1 - (e : Int) := by omega
      subst er
      refine w_b1s (a := (e : Int)) ?_ ?_
      · show some ((-1) - (-1 - (e : Int))) = some (e : Int)
        rw [show (-1) - (-1 - (e : Int)) = (e : Int) by omega]
      · exact w_s ⟨k, P, e, 0, ⟨c1, hk, Or.inl ⟨rfl, hr⟩⟩, c4, Or.inr ⟨Or.inl rfl, rfl⟩⟩
    · obtain ⟨e, he⟩ := toN d
      subst he
      refine w_lz ?_
      refine w_lt (by omega) (fun f => ?_) (fun f => ?_)
      · have sr := sgn_r T e
        refine w_b1s (signAt_X6 T (by omega)) ?_
        refine w_eq (by omega) (fun g => ?_) (fun g => ?_)
        · refine w_lz ?_
          refine hn _ _ _ _ ⟨PX P k (e + 1), CHn_s c1 hr g, by rw [PX_n]; omega, by rw [PX_n]; omega, by omega, by omega, fun j hj => ?_⟩
          rw [PX_o (show j ≤ k by omega)]
          exact c4 j (by omega)
        · exact w_s ⟨k, P, e, 1, ⟨c1, hk, Or.inr ⟨rfl, hr, by omega, Or.inl g⟩⟩, c4, Or.inr ⟨Or.inr (by omega), rfl⟩⟩
      · have so := sgn_out (s := s) (show h ≤ e by omega)
        refine w_s ⟨k, P, e, 1, ⟨c1, hk, Or.inr ⟨rfl, hr, by omega, Or.inl (by omega)⟩⟩, c4, Or.inl ⟨rfl, by omega, rfl, ?_⟩⟩
        show (k : Int) + 1 = ((k + 1 : Nat) : Int)
        omega
  · obtain ⟨P, c1, e1, c2, e2, e3, c3⟩ := hI
    subst e1
    subst e2
    subst e3
    refine w_ltF (by omega) ?_
    obtain ⟨e, e1, e2, e3⟩ := c1.2 11 (by omega)
    have el := sgn_lt (s := s) (show 0 ≤ sgn h s e by omega)
    refine w_s ⟨11, P, e, 1, ⟨⟨c1.1, fun j hj => c1.2 j (by omega)⟩, by omega, Or.inr ⟨rfl, e1, by omega, Or.inr rfl⟩⟩, fun j hj => c3 j (by omega), Or.inr ⟨Or.inr el, ?_⟩⟩
    have e3' : P 12 = e + 1 := e3
    show ((P 12 : Nat) : Int) - 1 = (e : Int)
    omega
theorem RCl_k {h p j : Nat} {s a b c d a' b' c' d' : Nat → Int} (R : RCl h s p j a b c d) (e1 : a' j = a j) (e2 : b' j = b j) (e3 : c' j = c j) (e4 : d' j = d j) : RCl h s p j a' b' c' d' := by
  unfold RCl at R ⊢
  rw [e1, e2, e3, e4]
  exact R
/-- what the reference's walk comes to -/
def RFt (h : Nat) (s : Nat → Int) (o : Int × Int × Int × (Nat → Int) × (Nat → Int) × (Nat → Int) × (Nat → Int)) : Prop := ∃ (k : Nat) (P : Nat → Nat) (e : Nat) (ok : Int), SPt h s k P e ok ∧ o.2.1 = (e : Int) ∧ ((ok = 0 ∧ o.1 = 0) ∨ (ok = 1 ∧ ((e = h ∧ o.1 = 1) ∨ (e < h ∧ o.1 = 0)) ∧ o.2.2.1 = ((k + 1 : Nat) : Int) ∧ ∀ j, j ≤ k → RCl h s (P j) j o.2.2.2.1 o.2.2.2.2.1 o.2.2.2.2.2.1 o.2.2.2.2.2.2))
theorem readAll_X9 {h : Nat} {s t cl to by' nu : Nat → Int} {a b : Int} (T : TX h s t) : wp (f_X9_readAll h a b t cl to by' nu) (RFt h s) := by
  have h1 := T.1
  unfold f_X9_readAll
  refine w_q6 (fun k pl c cl to by' nu => ∃ P : Nat → Nat, CHn h s k P ∧ k < 12 ∧ pl = ((P k : Nat) : Int) ∧ P k ≤ h ∧ c = (k : Int) ∧ ∀ j, j < k → RCl h s (P j) j cl to by' nu) 12 0 ⟨fun _ => 0, ⟨rfl, fa_0⟩, by omega, rfl, Nat.zero_le _, rfl, fa_0⟩ (by omega) (by omega) (fun k hk pl c cl to by' nu hI nx hn => ?_) (fun pl c cl to by' nu hI nx => ?_)
  · obtain ⟨P, c1, -, e1, c2, e2, c3⟩ := hI
    subst e1
    subst e2
    refine w_b6 (readClause_X9 T c2 hk) (fun r11 p11 cl1 to1 by1 nu1 hr => ?_)
    obtain ⟨e, e0, e1, k1, k2, k3, k4, hr⟩ := hr
    have e1' : p11 = (e : Int) := e1
    subst e1'
    rcases hr with ⟨a1, a2⟩ | ⟨a1, a2, a3, a4⟩
    · have a1' : r11 = 0 := a1
      exact w_eqT a1' (w_s ⟨k, P, e, 0, ⟨c1, hk, Or.inl ⟨rfl, a2⟩⟩, rfl, Or.inl ⟨rfl, rfl⟩⟩)
    · have a1' : r11 = 1 := a1
      refine w_eqF (by omega) ?_
      have c4 : ∀ j, j ≤ k → RCl h s (P j) j cl1 to1 by1 nu1 := fun j hj => by
        by_cases q : j = k
        · subst q
          exact a4
        · exact RCl_k (c3 j (by omega)) (k1 j q) (k2 j q) (k3 j q) (k4 j q)
      have kk : (k : Int) + 1 = ((k + 1 : Nat) : Int) := by omega
      refine w_lz ?_
      refine w_j ?_
      by_cases q : k = 11
      · refine w_ltF (by omega) ?_
        refine w_j ?_
        refine w_eq (by omega) (fun z => ?_) (fun z => ?_)
        · exact w_g1 (w_s ⟨k, P, e, 1, ⟨c1, hk, Or.inr ⟨rfl, a2, a3, Or.inr q⟩⟩, rfl, Or.inr ⟨rfl, Or.inl ⟨by omega, rfl⟩, kk, c4⟩⟩)
        · exact w_g0 (w_s ⟨k, P, e, 1, ⟨c1, hk, Or.inr ⟨rfl, a2, a3, Or.inr q⟩⟩, rfl, Or.inr ⟨rfl, Or.inr ⟨by omega, rfl⟩, kk, c4⟩⟩)
      · refine w_ltT (by omega) ?_
        rcases takes_X9 (v := 59) T a3 (by omega) with ⟨g1, g2⟩ | ⟨g1, g2⟩
        · refine w_b2s g2 ?_
          refine w_eqF (by omega) ?_
          have el := sgn_lt (s := s) (show 0 ≤ sgn h s e by omega)
          refine hn _ _ _ _ _ _ ⟨PX P k (e + 1), CHn_s c1 a2 g1, by omega, by rw [PX_n], by rw [PX_n]; omega, by omega, fun j hj => ?_⟩
          rw [PX_o (show j ≤ k by omega)]
          exact c4 j (by omega)
        · refine w_b2s g2 ?_
          refine w_eqT rfl ?_
          refine w_j ?_
          refine w_eq (by omega) (fun z => ?_) (fun z => ?_)
          · exact w_g1 (w_s ⟨k, P, e, 1, ⟨c1, hk, Or.inr ⟨rfl, a2, a3, Or.inl g1⟩⟩, rfl, Or.inr ⟨rfl, Or.inl ⟨by omega, rfl⟩, kk, c4⟩⟩)
          · exact w_g0 (w_s ⟨k, P, e, 1, ⟨c1, hk, Or.inr ⟨rfl, a2, a3, Or.inl g1⟩⟩, rfl, Or.inr ⟨rfl, Or.inr ⟨by omega, rfl⟩, kk, c4⟩⟩)
  · obtain ⟨P, c1, c0, -⟩ := hI
    exact absurd c0 (by omega)
