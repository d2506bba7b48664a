/-! PURE PART: of, after -/
theorem aside_X9 {far d : Nat → Int} : wp (f_X9_laysAside far d) (fun o => ∀ k : Nat, k < 25 → o k = far k) := by
  unfold f_X9_laysAside
  refine w_q2 (fun k v o => v = (k : Int) ∧ ∀ j : Nat, j < k → o j = far j) 25 0 ⟨rfl, fa_0⟩ (by omega) (by omega) (fun k hk v o hI nx hn => ?_) (fun v o hI nx => ?_)
  · obtain ⟨rfl, t1⟩ := hI
    refine w_ltT (by omega) ?_
    refine w_gi (by omega) ?_
    refine w_l (fun y ey => ?_)
    refine w_gi (by omega) ?_
    rw [ix_nat (show k < 2147483648 by omega)]
    rw [ix_nat (show k < 2147483648 by omega)] at ey
    refine hn _ _ ⟨by omega, fun j hj => ?_⟩
    by_cases c : j = k
    · rw [c, up_eq]
      exact ey
    · rw [up_ne _ _ c]
      exact t1 j (by omega)
  · obtain ⟨rfl, t1⟩ := hI
    refine w_ltF (by omega) ?_
    exact w_s t1
theorem back_X9 {far d : Nat → Int} : wp (f_X9_laysBack far d) (fun o => ∀ k : Nat, k < 25 → o k = d k) := by
  unfold f_X9_laysBack
  refine w_q2 (fun k v o => v = (k : Int) ∧ ∀ j : Nat, j < k → o j = d j) 25 0 ⟨rfl, fa_0⟩ (by omega) (by omega) (fun k hk v o hI nx hn => ?_) (fun v o hI nx => ?_)
  · obtain ⟨rfl, t1⟩ := hI
    refine w_ltT (by omega) ?_
    refine w_gi (by omega) ?_
    refine w_l (fun y ey => ?_)
    refine w_gi (by omega) ?_
    rw [ix_nat (show k < 2147483648 by omega)]
    rw [ix_nat (show k < 2147483648 by omega)] at ey
    refine hn _ _ ⟨by omega, fun j hj => ?_⟩
    by_cases c : j = k
    · rw [c, up_eq]
      exact ey
    · rw [up_ne _ _ c]
      exact t1 j (by omega)
  · obtain ⟨rfl, t1⟩ := hI
    refine w_ltF (by omega) ?_
    exact w_s t1
theorem oneIf_X8 {r : Int} (h : r = 0 ∨ r = 1) : f_X8_oneIf r = some r := by
  rcases h with rfl | rfl <;> rfl
theorem bI_or {r : Int} {p : Prop} (h : bI r p) : r = 0 ∨ r = 1 := by
  rcases h with h | h <;> omega
theorem rest_sum {n p q : Nat} {g : Nat → Int} (h3 : 3 ≤ n) (h5 : n ≤ 5) (tg : Tb g) : sm (fun j => pI (2 * j + 2) p q * WT n g (2 * j + 2)) (KK n) = sm (fun j => if 0 < WT n g (2 * j + 2) then pI (2 * j + 2) p q * WT n g (2 * j + 2) else 0) (KK n) := by
  refine sm_c _ (fun j hj => ?_)
  obtain ⟨-, w2, w3⟩ := WT_X4 h3 h5 tg (spl_k h3 h5 hj)
  show _ = if 0 < WT n g (2 * j + 2) then pI (2 * j + 2) p q * WT n g (2 * j + 2) else 0
  by_cases c : 0 < WT n g (2 * j + 2)
  · rw [if_pos c]
  · rw [if_neg c, show WT n g (2 * j + 2) = 0 by omega, Int.mul_zero]
theorem st_8 {x : Nat → Int} {X : Nat → Nat → Int} {kx : Nat → Int64} {it : Nat → Nat → Int64} {F : Nat → Int} {B : Nat → Nat → Int} {cl bt : Nat → Int64} (h : Rel x X kx it F B cl bt) (p1 : Int) (g1 : rg p1) (p2 : Int) (g2 : rg p2) (p3 : Int) (g3 : rg p3) : ∃ (r : Int) (o0 : Int) (o1 : Nat → Int) (o2 : Int) (o3 : Int) (o4 : Int) (o5 : Nat → Int) (o6 : Nat → Int) (o7 : Nat → Int) (o0' : Nat → Int) (o1' : Nat → Int) (o2' : Nat → Int), f_X8_of p1 p2 p3 (x 1) (X 0) (x 15) (X 12) (x 16) (x 17) (x 18) (X 13) (X 14) (X 15) = some (r, o0, o1, o2, o3, o4, o5, o6, o7) ∧ f_X9_of p1 p2 p3 (F 0) (B 1) (B 20) (B 21) = some (r, o0', o1', o2') ∧ Rel (up (up (up (up x 15 o0) 16 o2) 17 o3) 18 o4) (up (up (up (up X 12 o1) 13 o5) 14 o6) 15 o7) kx it F (up (up (up B 1 o0') 20 o1') 21 o2') cl bt := by
  obtain ⟨⟨⟨e0, h3, h5, tg, tf, ag⟩, hNu, hMp, hSe, hEv, hBo⟩, hC, hI, hSp, hHu, hT, hTa⟩ := h
  obtain ⟨n, hn⟩ := toN (show 0 ≤ x 1 by omega)
  have ag' : Ag n (X 0) (B 1) := hn ▸ ag
  have n3 : 3 ≤ n := by omega
  have n5 : n ≤ 5 := by omega
  obtain ⟨g31, g32⟩ := id g3
  have t := KK_2 n3 n5
  have fin : wp (f_X8_of p1 p2 p3 n (X 0) (x 15) (X 12) (x 16) (x 17) (x 18) (X 13) (X 14) (X 15)) (fun o => SpOk o.2.2.2.1 o.2.2.2.2.1 o.2.2.2.2.2.1 o.2.2.2.2.2.2.1 o.2.2.2.2.2.2.2.1 o.2.2.2.2.2.2.2.2 ∧ wp (f_X9_of p1 p2 p3 n (B 1) (B 20) (B 21)) (fun u => u.1 = o.1 ∧ ∀ k : Nat, k < 25 → u.2.1 k = B 1 k)) := by
    unfold f_X8_of f_X9_of
    refine w_b1s (has_X4 g1 (by omega) (by omega)) ?_
    refine w_j ?_
    refine w_B (fun c => w_s ⟨hSp, ?_⟩) (fun c1 => ?_)
    · refine w_b1s (isPoint_X9 g1 (by omega) (by omega)) ?_
      refine w_j ?_
      exact w_B (fun _ => w_s ⟨rfl, fun k _ => rfl⟩) (fun z => absurd z c)
    refine w_b1s (has_X4 g2 (by omega) (by omega)) ?_
    refine w_B (fun c => w_s ⟨hSp, ?_⟩) (fun c2 => ?_)
    · refine w_b1s (isPoint_X9 g1 (by omega) (by omega)) ?_
      refine w_j ?_
      refine w_B (fun z => absurd c1 z) (fun _ => ?_)
      refine w_b1s (isPoint_X9 g2 (by omega) (by omega)) ?_
      exact w_B (fun _ => w_s ⟨rfl, fun k _ => rfl⟩) (fun z => absurd z c)
    obtain ⟨p, rfl⟩ := toN c1.1
    obtain ⟨q, rfl⟩ := toN c2.1
    have head : ∀ {t : Option (Int × (Nat → Int) × (Nat → Int) × (Nat → Int))} {u : Option (Int × (Nat → Int) × (Nat → Int) × (Nat → Int))} {K : Int × (Nat → Int) × (Nat → Int) × (Nat → Int) → Prop}, wp t K → wp (bd1 (f_X9_isPoint (p : Int) n) (fun r2 => jn u (fun (k25 : Option (Int × (Nat → Int) × (Nat → Int) × (Nat → Int))) => if eqI r2 0 = true then k25 else (bd1 (f_X9_isPoint (q : Int) n) (fun r10 => if eqI r10 0 = true then k25 else t))))) K := by
      intro t u K ht
      refine w_b1s (isPoint_X9 g1 (by omega) (by omega)) ?_
      refine w_j ?_
      refine w_B (fun z => absurd c1 z) (fun _ => ?_)
      refine w_b1s (isPoint_X9 g2 (by omega) (by omega)) ?_
      exact w_B (fun z => absurd c2 z) (fun _ => ht)
    have ep := ag' p q (by omega) (by omega)
    refine w_eq (by omega) (fun d => ?_) (fun d => ?_)
    · refine w_gap tg (by omega) (fun r e l u => ?_)
      refine w_s ⟨hSp, ?_⟩
      unfold f_X9_isPoint
      refine w_b1s (isPoint_X9 g1 (by omega) (by omega)) ?_
      refine w_j ?_
      refine w_B (fun z => absurd c1 z) (fun _ => ?_)
      refine w_b1s (isPoint_X9 g2 (by omega) (by omega)) ?_
      refine w_B (fun z => absurd c2 z) (fun _ => ?_)
      refine w_b1s (in_X9 g3 ⟨by omega, by omega⟩ ⟨by omega, by omega⟩) ?_
      refine w_B (fun z => absurd (by omega) z) (fun _ => ?_)
      refine w_eqF (by omega) ?_
      refine w_j ?_
      refine w_eqT d ?_
      refine w_d tf (by omega) (fun r2 e2 l2 u2 => ?_)
      exact w_s ⟨by rw [e2, e, ep], fun k _ => rfl⟩
    refine w_eq (by omega) (fun d1 => ?_) (fun d1 => ?_)
    · obtain ⟨o, e1, e2⟩ := become_X4 (s := x 15) (m := (n : Int)) (g := X 12) (d := X 0)
      refine w_b2s e1 ?_
      refine w_b1 (shorts_X4 n3 n5 (Tb_copy tg e2)) (fun c hc => ?_)
      refine w_gap hc.1 (by omega) (fun r e l u => ?_)
      refine w_s ⟨hSp, ?_⟩
      refine w_b1s (isPoint_X9 g1 (by omega) (by omega)) ?_
      refine w_j ?_
      refine w_B (fun z => absurd c1 z) (fun _ => ?_)
      refine w_b1s (isPoint_X9 g2 (by omega) (by omega)) ?_
      refine w_B (fun z => absurd c2 z) (fun _ => ?_)
      refine w_b1s (in_X9 g3 ⟨by omega, by omega⟩ ⟨by omega, by omega⟩) ?_
      refine w_B (fun z => absurd (by omega) z) (fun _ => ?_)
      refine w_eqT d1 ?_
      refine w_b1 aside_X9 (fun a ha => ?_)
      refine w_b3 (shorts_X9 n3 n5 tf) (fun b1 b2 b3 hb => ?_)
      obtain ⟨hb1, hb2, -⟩ := hb
      refine w_d hb1 (by omega) (fun r2 f2 l2 u2 => ?_)
      refine w_b1 back_X9 (fun z hz => ?_)
      refine w_s ⟨?_, fun k hk => (hz k hk).trans (ha k hk)⟩
      show r2 = r
      have ac : Ag n c b2 := Ag_tr hc.2 (Ag_tr (SHn_c n5 (Ag_tr (Ag_copy n5 e2) ag') n (Nat.le_refl _)) (Ag_sym hb2))
      rw [f2, e, ac p q (by omega) (by omega)]
    refine w_eq (by omega) (fun d2 => ?_) (fun d2 => ?_)
    · refine w_b6 (follow_X3 hSp n3 n5 tg) (fun a1 a2 a3 a4 a5 a6 ha => ?_)
      obtain ⟨b1, b2, b3, b4, b5⟩ := ha
      have so : SpOk a1 a2 a3 a4 a5 a6 := SpOk_of b1 b2 n3 n5 b3 b5
      obtain ⟨hh, rfl, P⟩ := b5
      have P' : SpP n (B 1) (KK n) hh a5 a6 := SpP_ag n3 n5 b3 tf (Ag_tr b4 ag') (Nat.le_refl _) P
      refine w_gap tg (by omega) (fun r e l u => ?_)
      refine w_b1 (between_X3 n3 n5 P' (show p < n by omega) (show q < n by omega)).2 (fun w hw => ?_)
      refine w_s ⟨so, ?_⟩
      refine w_b1s (isPoint_X9 g1 (by omega) (by omega)) ?_
      refine w_j ?_
      refine w_B (fun z => absurd c1 z) (fun _ => ?_)
      refine w_b1s (isPoint_X9 g2 (by omega) (by omega)) ?_
      refine w_B (fun z => absurd c2 z) (fun _ => ?_)
      refine w_b1s (in_X9 g3 ⟨by omega, by omega⟩ ⟨by omega, by omega⟩) ?_
      refine w_B (fun z => absurd (by omega) z) (fun _ => ?_)
      refine w_eqF (by omega) ?_
      refine w_j ?_
      refine w_eqF (by omega) ?_
      refine w_b1 (rest_X9 n3 n5 tf (show p < n by omega) (show q < n by omega)) (fun z hz => ?_)
      refine w_s ⟨?_, fun k _ => rfl⟩
      show z = 2 * r - w
      rw [hz, rest_sum n3 n5 tf, hw, e, ep]
    · refine w_s ⟨hSp, ?_⟩
      refine w_b1s (isPoint_X9 g1 (by omega) (by omega)) ?_
      refine w_j ?_
      refine w_B (fun z => absurd c1 z) (fun _ => ?_)
      refine w_b1s (isPoint_X9 g2 (by omega) (by omega)) ?_
      refine w_B (fun z => absurd c2 z) (fun _ => ?_)
      refine w_b1s (in_X9 g3 ⟨by omega, by omega⟩ ⟨by omega, by omega⟩) ?_
      exact w_B (fun _ => w_s ⟨rfl, fun k _ => rfl⟩) (fun z => absurd z (by omega))
  obtain ⟨⟨r, o0, o1, o2, o3, o4, o5, o6, o7⟩, e1, so, ⟨r', o0', o1', o2'⟩, e2, er, ec⟩ := fin
  have er' : r' = r := er
  subst er'
  refine ⟨r', o0, o1, o2, o3, o4, o5, o6, o7, o0', o1', o2', by rw [hn]; exact e1, by rw [e0, hn]; exact e2, ⟨⟨e0, h3, h5, tg, Tb_copy tf ec, ?_⟩, hNu, hMp, hSe, hEv, hBo⟩, hC, hI, so, hHu, hT, hTa⟩
  show Ag (x 1) (X 0) o0'
  rw [hn]
  exact Ag_tr ag' (Ag_sym (Ag_copy n5 ec))
