/-! PURE PART: the hull followed, or kept -/
theorem follow_X0 {m : Nat} {fol there held s : Int} {g nu tw d : Nat → Int} {kx : Nat → Int64} (H : HuOk fol there held s g kx tw) (m3 : 3 ≤ m) (m5 : m ≤ 5) (td : Tb d) : wp (f_X0_follow fol there held s g nu kx tw m d) (fun o => HuOk o.1 o.2.1 o.2.2.1 o.2.2.2.1 o.2.2.2.2.1 o.2.2.2.2.2.2.1 o.2.2.2.2.2.2.2 ∧ o.2.2.2.1 = m ∧ Tb o.2.2.2.2.1 ∧ Ag m o.2.2.2.2.1 d ∧ HUL m o.2.2.2.2.1 o.2.1 o.2.2.1 o.2.2.2.2.2.2.1 o.2.2.2.2.2.2.2) := by
  obtain ⟨H0, H1⟩ := H
  obtain ⟨⟨q1, q2, q3, q4, q5, q6, q7, q8⟩, e, p1, p2, p3, p4, p5⟩ := fresh_X0 (n := m) (a := there) (b := held) (d := g) (e := nu) (h := tw) (d' := d) (f := kx) (s := s) m3 m5 td
  have p1' : q1 = 1 := p1
  subst p1'
  have new : HuOk 1 q2 q3 q4 q5 q7 q8 := ⟨Or.inr rfl, fun _ => ⟨m, there, held, s, g, nu, tw, d, q6, kx, m3, m5, td, e⟩⟩
  rcases H0 with rfl | rfl
  · exact ⟨_, e, new, p2, p3, p4, p5⟩
  · obtain ⟨m', a', b', s', d', e', h', g1, nu', f', m3', m5', t1, eq⟩ := H1 rfl
    obtain ⟨o, eo, r1, r2, r3, r4, r5⟩ := fresh_X0 (n := m') (a := a') (b := b') (d := d') (e := e') (h := h') (d' := g1) (f := f') (s := s') m3' m5' t1
    rw [eq] at eo
    have eo' := Option.some.inj eo
    subst eo'
    have es : s = m' := r2
    subst es
    have tg : Tb g := r3
    unfold f_X0_follow
    refine w_j ?_
    refine w_eqF (by omega) ?_
    refine w_b1 (isLike_X4 m3' m5' m3 m5 tg td) (fun r hr => ?_)
    rcases hr with ⟨w1, w2, w3⟩ | w0
    · subst w2
      refine w_eqF (by omega) ?_
      refine w_s ⟨⟨Or.inr rfl, fun _ => ⟨m', a', b', s', d', e', h', g1, nu', f', m3', m5', t1, eq⟩⟩, rfl, tg, w3, r5⟩
    · refine w_eqT w0 ?_
      refine ⟨_, ?_, new, p2, p3, p4, p5⟩
      have e2 := e
      unfold f_X0_follow at e2
      exact e2
theorem CORN_ag {n : Nat} {g far f : Nat → Int} (ag : Ag n g far) (C : CORN n g f) : CORN n far f := by
  obtain ⟨f8, K, s, S, R⟩ := C
  exact ⟨f8, (KEEP_ag ag (fun x _ => rfl)).mp K, s, fun x hx => ⟨(S x hx).1, (TI_ag ag (fun x _ => rfl) hx (S x hx).1).mp (S x hx).2⟩, R⟩
theorem CSv_ag {n v : Nat} {g far : Nat → Int} (ag : Ag n g far) : CSv n g v ↔ CSv n far v := ⟨fun ⟨f, C, e⟩ => ⟨f, CORN_ag ag C, e⟩, fun ⟨f, C, e⟩ => ⟨f, CORN_ag (Ag_sym ag) C, e⟩⟩
/-- there are 37 at most -/
theorem SL_37 {n : Nat} {g : Nat → Int} (h3 : 3 ≤ n) (h5 : n ≤ 5) (tg : Tb g) (T : TAB n g) : ∃ (h : Nat) (c : Nat → Nat), h ≤ 37 ∧ SL h c (CSv n g) ∧ ∀ i, i < h → c i < 2 ^ 35 := by
  obtain ⟨o, eo, r1, r2, r3, r4, r5⟩ := fresh_X0 (n := n) (a := 0) (b := 0) (d := g) (e := g) (h := g) (d' := g) (f := fun _ => 0) (s := 0) h3 h5 tg
  rcases r5 with ⟨a, b⟩ | ⟨a, b, h, c, e1, e2, e3, e4, e5⟩
  · exact absurd ((TAB_ag r4).mpr T) b
  · exact ⟨h, c, e2, SL_c e3 (fun v => CSv_ag r4), fun i hi => (e4 i hi).2⟩
