/-! PURE PART: after -/
theorem evs_c {n : Nat} {sS sW : Nat → Int} {g far : Nat → Int} (h5 : n ≤ 5) (ag : Ag n g far) : ∀ h : Nat, Ag n (itN (fun k (a : Nat → Int) => evw n (sS k) (sW k) a) g h) (itN (fun k (a : Nat → Int) => evw n (sS k) (sW k) a) far h)
  | 0 => ag
  | h + 1 => evw_c h5 (evs_c h5 ag h)
theorem tree_b {n : Nat} {g : Nat → Int} (h5 : n ≤ 5) (tg : Tb g) : ∃ r, f_X4_isTree n g = some r ∧ (r = 0 ∨ r = 1) := by
  obtain ⟨r, e1, e2, e3⟩ := isTree_same h5 tg tg Ag_re
  exact ⟨r, e1, e3⟩
/-- the reference's answer, its table at c -/
theorem after_X9 {n m : Nat} {p1 : Int} {sS sW : Nat → Int} {g kp as : Nat → Int} (h3 : 3 ≤ n) (h5 : n ≤ 5) (tg : Tb g) (m8 : m ≤ 8) (hc : ∀ k : Nat, k < m → EvOk (sS k) (sW k)) (hp : 0 ≤ p1 ∧ p1 ≤ 2) : wp (f_X9_after p1 n m g sS sW kp as) (fun o => (∀ k : Nat, k < 25 → o.2.1 k = g k) ∧ ∃ c, Tb c ∧ Ag n c (itN (fun k (a : Nat → Int) => evw n (sS k) (sW k) a) g m) ∧ (p1 = 0 → bI o.1 (TAB n c)) ∧ (p1 = 1 → o.1 = sm (fun j => if 0 < WT n c (2 * j + 2) then 1 else 0) (KK n)) ∧ (p1 = 2 → f_X9_isTree n c = some o.1)) := by
  unfold f_X9_after
  refine w_b1s (in_X9 ⟨by omega, by omega⟩ ⟨by omega, by omega⟩ ⟨by omega, by omega⟩) ?_
  refine w_B (fun z => absurd hp z) (fun _ => ?_)
  refine w_b1 aside_X9 (fun a ha => ?_)
  refine w_q3 (fun k v cur kp => v = (k : Int) ∧ Tb cur ∧ Ag n cur (itN (fun k (a : Nat → Int) => evw n (sS k) (sW k) a) g k)) m 0 ⟨rfl, tg, Ag_re⟩ (by omega) (by omega) (fun k hk v cur kp hI nx hn => ?_) (fun v cur kp hI nx => ?_)
  · obtain ⟨rfl, t1, t2⟩ := hI
    refine w_ltT (by omega) ?_
    refine w_gi (by omega) ?_
    refine w_gi (by omega) ?_
    rw [ix_nat (show k < 2147483648 by omega)]
    refine w_b2 (happens_X9 h3 h5 t1 (hc k hk)) (fun b1 b2 hb => ?_)
    exact hn _ _ _ ⟨by omega, hb.1, Ag_tr hb.2 (evw_c h5 t2)⟩
  · obtain ⟨rfl, t1, t2⟩ := hI
    refine w_ltF (by omega) ?_
    refine w_j ?_
    refine w_eq (by omega) (fun d => ?_) (fun d => ?_)
    · refine w_b1 (barred_X9 h5 t1) (fun r hr => ?_)
      have := FB_tab h5 hr
      refine w_lt (by omega) (fun c => ?_) (fun c => ?_)
      · refine w_b1 back_X9 (fun z hz => w_s ⟨fun k hk => (hz k hk).trans (ha k hk), cur, t1, t2, fun _ => bI_1 (by rcases this with q | q; exact q.2; omega), fun z => absurd z (by omega), fun z => absurd z (by omega)⟩)
      · refine w_b1 back_X9 (fun z hz => w_s ⟨fun k hk => (hz k hk).trans (ha k hk), cur, t1, t2, fun _ => bI_0 (by rcases this with q | q; omega; exact q.2.2), fun z => absurd z (by omega), fun z => absurd z (by omega)⟩)
    refine w_eq (by omega) (fun d1 => ?_) (fun d1 => ?_)
    · refine w_b1 (counting_X9 h3 h5 t1) (fun r hr => ?_)
      refine w_b1 back_X9 (fun z hz => w_s ⟨fun k hk => (hz k hk).trans (ha k hk), cur, t1, t2, fun z => absurd z (by omega), fun _ => hr, fun z => absurd z (by omega)⟩)
    · obtain ⟨r, e1, e2, e3⟩ := isTree_same h5 t1 t1 Ag_re
      refine w_b1s e2 ?_
      rcases e3 with rfl | rfl
      · refine w_eqT rfl ?_
        refine w_b1 back_X9 (fun z hz => w_s ⟨fun k hk => (hz k hk).trans (ha k hk), cur, t1, t2, fun z => absurd z (by omega), fun z => absurd z (by omega), fun _ => e2⟩)
      · refine w_eqF (by omega) ?_
        refine w_b1 back_X9 (fun z hz => w_s ⟨fun k hk => (hz k hk).trans (ha k hk), cur, t1, t2, fun z => absurd z (by omega), fun z => absurd z (by omega), fun _ => e2⟩)
theorem st_26 {x : Nat → Int} {X : Nat → Nat → Int} {kx : Nat → Int64} {it : Nat → Nat → Int64} {F : Nat → Int} {B : Nat → Nat → Int} {cl bt : Nat → Int64} (h : Rel x X kx it F B cl bt) (p1 : Int) (g1 : rg p1) : ∃ (r : Int) (o0 : Int) (o1 : Nat → Int) (o2 : Int) (o3 : Int) (o4 : Int) (o5 : Nat → Int) (o6 : Nat → Int) (o7 : Nat → Int) (o0' : Nat → Int) (o1' : Nat → Int) (o2' : Nat → Int), f_X8_after p1 (x 1) (X 0) (x 5) (X 4) (x 15) (X 12) (x 16) (x 17) (x 18) (X 13) (X 14) (X 15) = some (r, o0, o1, o2, o3, o4, o5, o6, o7) ∧ f_X9_after p1 (F 0) (F 7) (B 1) (B 8) (B 9) (B 20) (B 21) = some (r, o0', o1', o2') ∧ Rel (up (up (up (up x 15 o0) 16 o2) 17 o3) 18 o4) (up (up (up (up X 12 o1) 13 o5) 14 o6) 15 o7) kx it F (up (up (up B 1 o0') 20 o1') 21 o2') cl bt := by
  obtain ⟨⟨⟨e0, h3, h5, tg, tf, ag⟩, hNu, hMp, hSe, hEv, hBo⟩, hC, hI, hSp, hHu, hT, hTa⟩ := h
  obtain ⟨n, hn⟩ := toN (show 0 ≤ x 1 by omega)
  have ag' : Ag n (X 0) (B 1) := hn ▸ ag
  have n3 : 3 ≤ n := by omega
  have n5 : n ≤ 5 := by omega
  obtain ⟨g11, g12⟩ := id g1
  obtain ⟨v1, v2, v3, v4⟩ := id hEv
  obtain ⟨m, hm⟩ := toN v2
  have t := KK_2 n3 n5
  have ev : ∀ k : Nat, k < m → X 4 (3 * k) = B 8 k ∧ X 4 (3 * k + 1) = B 9 k ∧ EvOk (B 8 k) (B 9 k) := fun k hk => v4 k (by omega)
  have fin : wp (f_X8_after p1 n (X 0) m (X 4) (x 15) (X 12) (x 16) (x 17) (x 18) (X 13) (X 14) (X 15)) (fun o => SpOk o.2.2.2.1 o.2.2.2.2.1 o.2.2.2.2.2.1 o.2.2.2.2.2.2.1 o.2.2.2.2.2.2.2.1 o.2.2.2.2.2.2.2.2 ∧ wp (f_X9_after p1 n m (B 1) (B 8) (B 9) (B 20) (B 21)) (fun u => u.1 = o.1 ∧ ∀ k : Nat, k < 25 → u.2.1 k = B 1 k)) := by
    by_cases c : 0 ≤ p1 ∧ p1 ≤ 2
    · have k9 := after_X9 (kp := B 20) (as := B 21) n3 n5 tf (show m ≤ 8 by omega) (fun k hk => (ev k hk).2.2) c
      unfold f_X8_after
      refine w_j ?_
      refine w_ltF (by omega) ?_
      refine w_ltF (by omega) ?_
      obtain ⟨o, e1, e2⟩ := become_X4 (s := x 15) (m := (n : Int)) (g := X 12) (d := X 0)
      refine w_b2s e1 ?_
      refine w_b1 (happen_X2 n3 n5 (Tb_copy tg e2) (show m ≤ 8 by omega) ev) (fun d hd => ?_)
      obtain ⟨d1, d2⟩ := hd
      have dd : Ag n d (itN (fun k (a : Nat → Int) => evw n (B 8 k) (B 9 k) a) (B 1) m) := Ag_tr d2 (evs_c n5 (Ag_tr (Ag_copy n5 e2) ag') m)
      refine w_eq (by omega) (fun y => ?_) (fun y => ?_)
      · refine w_b1 (isTable_X4 n5 d1) (fun r hr => ?_)
        refine w_b1s (oneIf_X8 (bI_or hr)) ?_
        refine w_s ⟨hSp, w_m k9 (fun a ha => ?_)⟩
        obtain ⟨ha1, c', hc1, hc2, hc3, hc4, hc5⟩ := ha
        exact ⟨bI_u (hc3 y) (bI_c hr (TAB_ag (Ag_tr dd (Ag_sym hc2)))), ha1⟩
      refine w_eq (by omega) (fun y2 => ?_) (fun y2 => ?_)
      · obtain ⟨r, er, eo⟩ := tree_b n5 d1
        refine w_b1s er ?_
        refine w_b1s (oneIf_X8 eo) ?_
        refine w_s ⟨hSp, w_m k9 (fun a ha => ?_)⟩
        obtain ⟨ha1, c', hc1, hc2, hc3, hc4, hc5⟩ := ha
        obtain ⟨r', q1, q2, q3⟩ := isTree_same n5 d1 hc1 (Ag_tr dd (Ag_sym hc2))
        refine ⟨?_, ha1⟩
        have z1 := hc5 y2
        rw [q2] at z1
        rw [q1] at er
        have z2 := Option.some.inj z1
        have z3 := Option.some.inj er
        show a.1 = r
        rw [← z2, ← z3]
      · refine w_b6 (follow_X3 hSp n3 n5 d1) (fun a1 a2 a3 a4 a5 a6 ha => ?_)
        obtain ⟨b1, b2, b3, b4, b5⟩ := ha
        have so : SpOk a1 a2 a3 a4 a5 a6 := SpOk_of b1 b2 n3 n5 b3 b5
        refine w_s ⟨so, w_m k9 (fun a ha => ?_)⟩
        obtain ⟨ha1, c', hc1, hc2, hc3, hc4, hc5⟩ := ha
        obtain ⟨hh, rfl, P⟩ := b5
        have P' : SpP n c' (KK n) hh a5 a6 := SpP_ag n3 n5 b3 hc1 (Ag_tr b4 (Ag_tr dd (Ag_sym hc2))) (Nat.le_refl _) P
        refine ⟨?_, ha1⟩
        rw [hc4 (by omega), ← SpP_h P']
    · unfold f_X8_after f_X9_after
      have k9 : wp (f_X9_after p1 n m (B 1) (B 8) (B 9) (B 20) (B 21)) (fun u => u.1 = -1 ∧ ∀ k : Nat, k < 25 → u.2.1 k = B 1 k) := by
        unfold f_X9_after
        refine w_b1s (in_X9 ⟨by omega, by omega⟩ ⟨by omega, by omega⟩ ⟨by omega, by omega⟩) ?_
        exact w_B (fun _ => w_s ⟨rfl, fun k _ => rfl⟩) (fun z => absurd z c)
      refine w_j ?_
      refine w_lt (by omega) (fun c2 => w_s ⟨hSp, k9⟩) (fun c2 => ?_)
      refine w_lt (by omega) (fun c3 => w_s ⟨hSp, k9⟩) (fun c3 => ?_)
      omega
  obtain ⟨⟨r, o0, o1, o2, o3, o4, o5, o6, o7⟩, e1, so, ⟨r', o0', o1', o2'⟩, e2, er, ec⟩ := fin
  have er' : r' = r := er
  subst er'
  refine ⟨r', o0, o1, o2, o3, o4, o5, o6, o7, o0', o1', o2', by rw [hn, hm]; exact e1, by rw [e0, hn, v1, hm]; exact e2, ⟨⟨e0, h3, h5, tg, Tb_copy tf ec, ?_⟩, hNu, hMp, hSe, hEv, hBo⟩, hC, hI, so, hHu, hT, hTa⟩
  show Ag (x 1) (X 0) o0'
  rw [hn]
  exact Ag_tr ag' (Ag_sym (Ag_copy n5 ec))
