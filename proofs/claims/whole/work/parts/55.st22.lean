/-! PURE PART: fits -/
theorem st_22 {x : Nat → Int} {X : Nat → Nat → Int} {kx : Nat → Int64} {it : Nat → Nat → Int64} {F : Nat → Int} {B : Nat → Nat → Int} {cl bt : Nat → Int64} (h : Rel x X kx it F B cl bt) (p1 : Int) (g1 : rg p1) (p2 : Int) (g2 : rg p2) (p3 : Int) (g3 : rg p3) : ∃ (r : Int) (o0 : Int) (o1 : Nat → Int) (o0' : Nat → Int), f_X8_fits p1 p2 p3 (x 1) (X 0) (x 3) (X 3) (x 15) (X 12) = some (r, o0, o1) ∧ f_X9_fits p1 p2 p3 (F 0) (F 4) (B 1) (B 5) (B 6) = some (r, o0') ∧ Rel (up x 15 o0) (up X 12 o1) kx it F (up B 1 o0') cl bt := by
  obtain ⟨⟨⟨e0, h3, h5, tg, tf, ag⟩, hNu, hMp, hSe, hEv, hBo⟩, hC, hI, hSp, hHu, hT, hTa⟩ := h
  obtain ⟨n, hn⟩ := toN (show 0 ≤ x 1 by omega)
  obtain ⟨s1, s2, s3, s4⟩ := id hSe
  obtain ⟨m, hm⟩ := toN s2
  obtain ⟨g31, g32⟩ := id g3
  by_cases c : (0 ≤ p1 ∧ p1 < n ∧ 0 ≤ p2 ∧ p2 < n ∧ p1 ≠ p2) ∧ 0 ≤ p3 ∧ p3 ≤ 1
  · obtain ⟨⟨c1, c2, c3, c4, c5⟩, c6, c7⟩ := c
    obtain ⟨p, rfl⟩ := toN c1
    obtain ⟨q, rfl⟩ := toN c3
    have so : SeOk m (B 5) (B 6) := ⟨by omega, fun k hk => (s4 k (by omega)).2.2⟩
    have ag' : Ag n (X 0) (B 1) := hn ▸ ag
    have fe : ∀ v : Nat, v ≤ 40 → (FIT n m (B 5) (B 6) (X 0) p q v ↔ FIT n m (B 5) (B 6) (B 1) p q v) := by
      intro v hv
      have a1 : Ag n (put2 (X 0) p q v) (put2 (B 1) p q v) := Ag_put ag' (by omega) (by omega) (by omega)
      have t1 : Tb (put2 (X 0) p q v) := Tb_put tg (by omega) (by omega) (by omega) (by omega) (by omega)
      have t2 : Tb (put2 (B 1) p q v) := Tb_put tf (by omega) (by omega) (by omega) (by omega) (by omega)
      exact ⟨fun f => ⟨(TAB_ag a1).mp f.1, (SEEN_ag (by omega) (by omega) t1 t2 a1).mp f.2⟩, fun f => ⟨(TAB_ag a1).mpr f.1, (SEEN_ag (by omega) (by omega) t1 t2 a1).mpr f.2⟩⟩
    have k8 := fits_X8 (n := n) (h := m) (c := X 3) (d := X 12) (s := x 15) (w := p3) (p := p) (q := q) (by omega) (by omega) tg so (fun k hk => ⟨(s4 k (by omega)).1, (s4 k (by omega)).2.1⟩) (by omega) (by omega) (by omega) (by omega)
    have k9 := fits_X9 (n := n) (h := m) (w := p3) (p := p) (q := q) (by omega) (by omega) tf so (by omega) (by omega) (by omega) (by omega)
    rw [← hn, ← hm] at k8
    rw [← e0.trans hn, ← s1.trans hm] at k9
    refine wp_two k8 k9 (fun a b e1 e2 P Q => ?_)
    obtain ⟨r, o0, o1⟩ := a
    obtain ⟨r', o'⟩ := b
    obtain ⟨Pa, Pb⟩ := P
    obtain ⟨Q1, Q2, Qa, Qb⟩ := Q
    have er : r = r' := by
      have hw : p3 = 0 ∨ p3 = 1 := by omega
      rcases hw with w | w
      · have P1 : r = sm (fun v => ind (FIT n m (B 5) (B 6) (X 0) p q v)) 41 := Pa w
        have Q3 : r' = sm (fun v => ind (FIT n m (B 5) (B 6) (B 1) p q (40 - v))) 41 := Qa w
        rw [P1, Q3, ← sm_rev]
        exact sm_c _ (fun i hi => ind_c (fe _ (by omega)))
      · have P1 : (r = -5 ∧ ∀ v, v < 41 → ¬ FIT n m (B 5) (B 6) (X 0) p q v) ∨ ∃ v : Nat, v < 41 ∧ r = v ∧ FIT n m (B 5) (B 6) (X 0) p q v ∧ ∀ u, u < v → ¬ FIT n m (B 5) (B 6) (X 0) p q u := Pb w
        have Q3 : (r' = -5 ∧ ∀ v, v < 41 → ¬ FIT n m (B 5) (B 6) (B 1) p q (40 - v)) ∨ ∃ v : Nat, v < 41 ∧ r' = 40 - v ∧ FIT n m (B 5) (B 6) (B 1) p q (40 - v) ∧ ∀ u, v < u → u < 41 → ¬ FIT n m (B 5) (B 6) (B 1) p q (40 - u) := Qb w
        rcases P1 with ⟨a1, a2⟩ | ⟨v, a1, a2, a3, a4⟩ <;> rcases Q3 with ⟨b1, b2⟩ | ⟨u, b1, b2, b3, b4⟩
        · rw [a1, b1]
        · exact absurd ((fe _ (by omega)).mpr b3) (a2 _ (by omega))
        · refine absurd ((fe _ (by omega)).mp a3) ?_
          have := b2 (40 - v) (by omega)
          rw [show 40 - (40 - v) = v by omega] at this
          exact this
        · have l1 : ¬ v < 40 - u := fun l => by
            have := b4 (40 - v) (by omega) (by omega)
            rw [show 40 - (40 - v) = v by omega] at this
            exact this ((fe _ (by omega)).mp a3)
          have l2 : ¬ 40 - u < v := fun l => a4 _ l ((fe _ (by omega)).mpr b3)
          omega
    subst er
    refine ⟨r, o0, o1, o', e1, e2, ⟨⟨e0, h3, h5, tg, Q1, ?_⟩, hNu, hMp, hSe, hEv, hBo⟩, hC, hI, hSp, hHu, hT, hTa⟩
    show Ag (x 1) (X 0) o'
    rw [hn]
    have Q2' : Ag (F 0) o' (B 1) := Q2
    rw [e0, hn] at Q2'
    exact Ag_tr ag' (Ag_sym Q2')
  · have k8 : wp (f_X8_fits p1 p2 p3 (x 1) (X 0) (x 3) (X 3) (x 15) (X 12)) (fun s => s = (-1, x 15, X 12)) := by
      unfold f_X8_fits
      refine w_b1s (areTwo_X4 g1 g2 h3 h5) ?_
      refine w_j ?_
      refine w_B (fun _ => w_s rfl) (fun z => ?_)
      refine w_lt (by omega) (fun c2 => w_s rfl) (fun c2 => ?_)
      refine w_lt (by omega) (fun c3 => w_s rfl) (fun c3 => ?_)
      exact absurd ⟨by omega, by omega, by omega⟩ c
    have k9 : wp (f_X9_fits p1 p2 p3 (F 0) (F 4) (B 1) (B 5) (B 6)) (fun s => s = (-1, B 1)) := by
      unfold f_X9_fits
      rw [e0]
      refine w_b1s (areTwo_X9 g1 g2 h3 h5) ?_
      refine w_j ?_
      refine w_B (fun _ => w_s rfl) (fun z => ?_)
      refine w_b1s (in_X9 g3 ⟨by omega, by omega⟩ ⟨by omega, by omega⟩) ?_
      refine w_B (fun _ => w_s rfl) (fun z2 => ?_)
      exact absurd ⟨by omega, by omega, by omega⟩ c
    exact ⟨-1, x 15, X 12, B 1, wp_e k8, wp_e k9, ⟨⟨e0, h3, h5, tg, tf, ag⟩, hNu, hMp, hSe, hEv, hBo⟩, hC, hI, hSp, hHu, hT, hTa⟩
