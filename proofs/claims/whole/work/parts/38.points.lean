/-! PURE PART: loops by invariant and aim; points -/
theorem lq1_P {A1 α : Type} {f : (A1 → Option α) → A1 → Option α} (I : Nat → A1 → Prop) (P : Option α → Prop) (b : Nat) (hs : ∀ k, k < b → ∀ a1, I k a1 → ∀ nx, (∀ c1, I (k + 1) c1 → P (nx c1)) → P (f nx a1)) (he : ∀ a1, I b a1 → ∀ nx, P (f nx a1)) : ∀ (N k : Nat) (a1 : A1), I k a1 → k ≤ b → b - k < N → P (lq1 f N a1)
  | 0, _, _, _, _, h => absurd h (Nat.not_lt_zero _)
  | N + 1, k, a1, hI, hk, h => by
    show P (f (lq1 f N) a1)
    rcases Nat.lt_or_eq_of_le hk with q | q
    · exact hs k q a1 hI _ (fun c1 hc => lq1_P I P b hs he N (k + 1) c1 hc q (by omega))
    · subst q
      exact he _ hI _
theorem lq2_P {A1 A2 α : Type} {f : (A1 → A2 → Option α) → A1 → A2 → Option α} (I : Nat → A1 → A2 → Prop) (P : Option α → Prop) (b : Nat) (hs : ∀ k, k < b → ∀ a1 a2, I k a1 a2 → ∀ nx, (∀ c1 c2, I (k + 1) c1 c2 → P (nx c1 c2)) → P (f nx a1 a2)) (he : ∀ a1 a2, I b a1 a2 → ∀ nx, P (f nx a1 a2)) : ∀ (N k : Nat) (a1 : A1) (a2 : A2), I k a1 a2 → k ≤ b → b - k < N → P (lq2 f N a1 a2)
  | 0, _, _, _, _, _, h => absurd h (Nat.not_lt_zero _)
  | N + 1, k, a1, a2, hI, hk, h => by
    show P (f (lq2 f N) a1 a2)
    rcases Nat.lt_or_eq_of_le hk with q | q
    · exact hs k q a1 a2 hI _ (fun c1 c2 hc => lq2_P I P b hs he N (k + 1) c1 c2 hc q (by omega))
    · subst q
      exact he _ _ hI _
theorem lq3_P {A1 A2 A3 α : Type} {f : (A1 → A2 → A3 → Option α) → A1 → A2 → A3 → Option α} (I : Nat → A1 → A2 → A3 → Prop) (P : Option α → Prop) (b : Nat) (hs : ∀ k, k < b → ∀ a1 a2 a3, I k a1 a2 a3 → ∀ nx, (∀ c1 c2 c3, I (k + 1) c1 c2 c3 → P (nx c1 c2 c3)) → P (f nx a1 a2 a3)) (he : ∀ a1 a2 a3, I b a1 a2 a3 → ∀ nx, P (f nx a1 a2 a3)) : ∀ (N k : Nat) (a1 : A1) (a2 : A2) (a3 : A3), I k a1 a2 a3 → k ≤ b → b - k < N → P (lq3 f N a1 a2 a3)
  | 0, _, _, _, _, _, _, h => absurd h (Nat.not_lt_zero _)
  | N + 1, k, a1, a2, a3, hI, hk, h => by
    show P (f (lq3 f N) a1 a2 a3)
    rcases Nat.lt_or_eq_of_le hk with q | q
    · exact hs k q a1 a2 a3 hI _ (fun c1 c2 c3 hc => lq3_P I P b hs he N (k + 1) c1 c2 c3 hc q (by omega))
    · subst q
      exact he _ _ _ hI _
theorem lq4_P {A1 A2 A3 A4 α : Type} {f : (A1 → A2 → A3 → A4 → Option α) → A1 → A2 → A3 → A4 → Option α} (I : Nat → A1 → A2 → A3 → A4 → Prop) (P : Option α → Prop) (b : Nat) (hs : ∀ k, k < b → ∀ a1 a2 a3 a4, I k a1 a2 a3 a4 → ∀ nx, (∀ c1 c2 c3 c4, I (k + 1) c1 c2 c3 c4 → P (nx c1 c2 c3 c4)) → P (f nx a1 a2 a3 a4)) (he : ∀ a1 a2 a3 a4, I b a1 a2 a3 a4 → ∀ nx, P (f nx a1 a2 a3 a4)) : ∀ (N k : Nat) (a1 : A1) (a2 : A2) (a3 : A3) (a4 : A4), I k a1 a2 a3 a4 → k ≤ b → b - k < N → P (lq4 f N a1 a2 a3 a4)
  | 0, _, _, _, _, _, _, _, h => absurd h (Nat.not_lt_zero _)
  | N + 1, k, a1, a2, a3, a4, hI, hk, h => by
    show P (f (lq4 f N) a1 a2 a3 a4)
    rcases Nat.lt_or_eq_of_le hk with q | q
    · exact hs k q a1 a2 a3 a4 hI _ (fun c1 c2 c3 c4 hc => lq4_P I P b hs he N (k + 1) c1 c2 c3 c4 hc q (by omega))
    · subst q
      exact he _ _ _ _ hI _
theorem lq5_P {A1 A2 A3 A4 A5 α : Type} {f : (A1 → A2 → A3 → A4 → A5 → Option α) → A1 → A2 → A3 → A4 → A5 → Option α} (I : Nat → A1 → A2 → A3 → A4 → A5 → Prop) (P : Option α → Prop) (b : Nat) (hs : ∀ k, k < b → ∀ a1 a2 a3 a4 a5, I k a1 a2 a3 a4 a5 → ∀ nx, (∀ c1 c2 c3 c4 c5, I (k + 1) c1 c2 c3 c4 c5 → P (nx c1 c2 c3 c4 c5)) → P (f nx a1 a2 a3 a4 a5)) (he : ∀ a1 a2 a3 a4 a5, I b a1 a2 a3 a4 a5 → ∀ nx, P (f nx a1 a2 a3 a4 a5)) : ∀ (N k : Nat) (a1 : A1) (a2 : A2) (a3 : A3) (a4 : A4) (a5 : A5), I k a1 a2 a3 a4 a5 → k ≤ b → b - k < N → P (lq5 f N a1 a2 a3 a4 a5)
  | 0, _, _, _, _, _, _, _, _, h => absurd h (Nat.not_lt_zero _)
  | N + 1, k, a1, a2, a3, a4, a5, hI, hk, h => by
    show P (f (lq5 f N) a1 a2 a3 a4 a5)
    rcases Nat.lt_or_eq_of_le hk with q | q
    · exact hs k q a1 a2 a3 a4 a5 hI _ (fun c1 c2 c3 c4 c5 hc => lq5_P I P b hs he N (k + 1) c1 c2 c3 c4 c5 hc q (by omega))
    · subst q
      exact he _ _ _ _ _ hI _
theorem spread_X4 {p s : Int} {g : Nat → Int} (h3 : 3 ≤ p) (h5 : p ≤ 5) (hg : Tb g) : ∃ o, f_X4_spread p s g = some (p, o) ∧ Tb o ∧ ∀ i j : Nat, i < j → (j : Int) < p → o (5 * i + j) = 2 := by
  obtain ⟨n, rfl⟩ := toN (show 0 ≤ p by omega)
  unfold f_X4_spread
  have e2 : minI (n : Int) 5 = n := by
    unfold minI
    rw [ltF (a := 5) (b := (n : Int)) (by omega) (by omega) (by omega) (by omega) (by omega)]
    rfl
  have e : maxI 3 (minI (n : Int) 5) = n := by
    rw [e2]
    unfold maxI
    by_cases c : 3 < (n : Int)
    · rw [ltT c (by omega) (by omega) (by omega) (by omega), if_pos rfl]
    · rw [ltF (a := 3) (b := (n : Int)) (by omega) (by omega) (by omega) (by omega) (by omega), if_neg (by decide)]
      omega
  rw [e, lv]
  refine lq2_P (I := fun k (v : Int) (g : Nat → Int) => v = (k : Int) ∧ Tb g ∧ ∀ i j : Nat, i < k → i < j → j < n → g (5 * i + j) = 2) (P := fun u => ∃ o, u = some ((n : Int), o) ∧ Tb o ∧ ∀ i j : Nat, i < j → (j : Int) < n → o (5 * i + j) = 2) n (fun k hk a1 a2 hI nx hn => ?_) (fun a1 a2 hI nx => ?_) 300 0 0 g ⟨rfl, hg, fun i j hi => absurd hi (Nat.not_lt_zero _)⟩ (by omega) (by omega)
  · obtain ⟨rfl, t1, t2⟩ := hI
    rw [ltT (a := (k : Int)) (b := (n : Int)) (by omega) (by omega) (by omega) (by omega) (by omega), if_pos rfl, lv]
    refine lq2_P (I := fun m (v : Int) (g : Nat → Int) => v = (m : Int) ∧ Tb g ∧ (∀ i j : Nat, i < k → i < j → j < n → g (5 * i + j) = 2) ∧ ∀ j : Nat, k < j → j < m → g (5 * k + j) = 2) (P := fun u => ∃ o, u = some ((n : Int), o) ∧ Tb o ∧ ∀ i j : Nat, i < j → (j : Int) < n → o (5 * i + j) = 2) n (fun m hm b1 b2 hJ ny hy => ?_) (fun b1 b2 hJ ny => ?_) 300 (k + 1) ((k : Int) + 1) a2 ⟨by omega, t1, t2, fun j q1 q2 => absurd q2 (by omega)⟩ (by omega) (by omega)
    · obtain ⟨rfl, u1, u2, u3⟩ := hJ
      by_cases km : k = m
      · rw [ltT (a := (m : Int)) (b := (n : Int)) (by omega) (by omega) (by omega) (by omega) (by omega), if_pos rfl, put_X4_n ⟨by omega, by omega⟩ ⟨by omega, by omega⟩ (by omega) (by omega) (by omega), bd1_s]
        refine hy _ _ ⟨by omega, u1, u2, fun j q1 q2 => absurd q2 (by omega)⟩
      · rw [ltT (a := (m : Int)) (b := (n : Int)) (by omega) (by omega) (by omega) (by omega) (by omega), if_pos rfl, put_X4 (by omega) (by omega) (by omega) (by omega) (by omega) (by omega) (by omega), bd1_s]
        refine hy _ _ ⟨by omega, Tb_put u1 (by omega) (by omega) km (by omega) (by omega), fun i j q1 q2 q3 => ?_, fun j q1 q2 => ?_⟩
        · rw [put2_at _ _ (by omega) (by omega) (by omega) (by omega)]
          by_cases c : (i = k ∧ j = m) ∨ (i = m ∧ j = k)
          · rw [if_pos c]
          · rw [if_neg c]
            exact u2 i j q1 q2 q3
        · rw [put2_at _ _ (by omega) (by omega) (by omega) (by omega)]
          by_cases c : (k = k ∧ j = m) ∨ (k = m ∧ j = k)
          · rw [if_pos c]
          · rw [if_neg c]
            exact u3 j q1 (by omega)
    · obtain ⟨rfl, u1, u2, u3⟩ := hJ
      rw [ltF (a := (n : Int)) (b := (n : Int)) (by omega) (by omega) (by omega) (by omega) (by omega), if_neg (by decide)]
      refine hn _ _ ⟨by omega, u1, fun i j q1 q2 q3 => ?_⟩
      by_cases c : i = k
      · subst c
        exact u3 j q2 q3
      · exact u2 i j (by omega) q2 q3
  · obtain ⟨rfl, t1, t2⟩ := hI
    rw [ltF (a := (n : Int)) (b := (n : Int)) (by omega) (by omega) (by omega) (by omega) (by omega), if_neg (by decide)]
    exact ⟨a2, rfl, t1, fun i j q1 q2 => t2 i j (by omega) q1 (by omega)⟩
theorem begin_X2 {p s : Int} {g nu im : Nat → Int} (h3 : 3 ≤ p) (h5 : p ≤ 5) (hg : Tb g) : ∃ (o nu' im' : Nat → Int), f_X2_begin p s g nu im = some (1, p, o, nu', im') ∧ (Tb o ∧ ∀ i j : Nat, i < j → (j : Int) < p → o (5 * i + j) = 2) ∧ ∀ i : Nat, i < 5 → nu' i = 0 ∧ im' i = (i : Int) := by
  obtain ⟨o, s1, s2, s3⟩ := spread_X4 (s := s) h3 h5 hg
  unfold f_X2_begin
  simp only [jn, ltF (a := p) (b := 3) (by omega) (by omega) (by omega) (by omega) (by omega), ltF (a := 5) (b := p) (by omega) (by omega) (by omega) (by omega) (by omega)]
  rw [if_neg (by decide), if_neg (by decide), s1, bd2_s]
  refine lq3_P (I := fun k (v : Int) (nu im : Nat → Int) => v = (k : Int) ∧ ∀ i : Nat, i < k → nu i = 0 ∧ im i = (i : Int)) (P := fun u => ∃ (o nu' im' : Nat → Int), u = some (1, p, o, nu', im') ∧ (Tb o ∧ ∀ i j : Nat, i < j → (j : Int) < p → o (5 * i + j) = 2) ∧ ∀ i : Nat, i < 5 → nu' i = 0 ∧ im' i = (i : Int)) 5 (fun k hk a1 a2 a3 hI nx hn => ?_) (fun a1 a2 a3 hI nx => ?_) 300 0 0 nu im ⟨rfl, fun i hi => absurd hi (Nat.not_lt_zero _)⟩ (by omega) (by omega)
  · obtain ⟨rfl, t1⟩ := hI
    have e1 : iin (k : Int) 5 = true := iin_t (by omega) (by omega) (by omega)
    rw [ltT (a := (k : Int)) (b := 5) (by omega) (by omega) (by omega) (by omega) (by omega), if_pos rfl, grd_s e1, grd_s e1, ix_nat (show k < 2147483648 by omega)]
    refine hn _ _ _ ⟨by omega, fun i hi => ?_⟩
    by_cases c : i = k
    · subst c
      rw [up_eq, up_eq]
      exact ⟨rfl, rfl⟩
    · rw [up_ne _ _ c, up_ne _ _ c]
      exact t1 i (by omega)
  · obtain ⟨rfl, t1⟩ := hI
    exact ⟨o, a2, a3, rfl, ⟨s2, s3⟩, t1⟩
theorem points_X9 {p s : Int} {g nu im : Nat → Int} (h3 : 3 ≤ p) (h5 : p ≤ 5) (hg : Tb g) : ∃ (o nu' im' : Nat → Int), f_X9_points p s g nu im = some (s, p, o, nu', im') ∧ (Tb o ∧ ∀ i j : Nat, j < i → i < 5 → o (5 * i + j) = 2) ∧ ∀ i : Nat, i < 5 → nu' i = 0 ∧ im' i = (i : Int) := by
  unfold f_X9_points
  rw [in_X9 ⟨by omega, by omega⟩ ⟨by omega, by omega⟩ ⟨by omega, by omega⟩, b01_t ⟨h3, h5⟩, bd1_s, if_neg (by decide)]
  refine lq4_P (I := fun k (v : Int) (g nu im : Nat → Int) => v = (k : Int) ∧ (Tb g ∧ ∀ i j : Nat, j < i → i < k → g (5 * i + j) = 2) ∧ ∀ i : Nat, i < k → nu i = 0 ∧ im i = (i : Int)) (P := fun u => ∃ (o nu' im' : Nat → Int), u = some (s, p, o, nu', im') ∧ (Tb o ∧ ∀ i j : Nat, j < i → i < 5 → o (5 * i + j) = 2) ∧ ∀ i : Nat, i < 5 → nu' i = 0 ∧ im' i = (i : Int)) 5 (fun k hk a1 a2 a3 a4 hI nx hn => ?_) (fun a1 a2 a3 a4 hI nx => ?_) 300 0 0 g nu im ⟨rfl, ⟨hg, fun i j _ hi => absurd hi (Nat.not_lt_zero _)⟩, fun i hi => absurd hi (Nat.not_lt_zero _)⟩ (by omega) (by omega)
  · obtain ⟨rfl, ⟨t1, t2⟩, t3⟩ := hI
    have e1 : iin (k : Int) 5 = true := iin_t (by omega) (by omega) (by omega)
    rw [ltT (a := (k : Int)) (b := 5) (by omega) (by omega) (by omega) (by omega) (by omega), if_pos rfl, grd_s e1, grd_s e1, ix_nat (show k < 2147483648 by omega)]
    refine lq2_P (I := fun m (v : Int) (g : Nat → Int) => v = (m : Int) ∧ Tb g ∧ (∀ i j : Nat, j < i → i < k → g (5 * i + j) = 2) ∧ ∀ j : Nat, j < m → g (5 * k + j) = 2) (P := fun u => ∃ (o nu' im' : Nat → Int), u = some (s, p, o, nu', im') ∧ (Tb o ∧ ∀ i j : Nat, j < i → i < 5 → o (5 * i + j) = 2) ∧ ∀ i : Nat, i < 5 → nu' i = 0 ∧ im' i = (i : Int)) k (fun m hm b1 b2 hJ ny hy => ?_) (fun b1 b2 hJ ny => ?_) 300 0 0 a2 ⟨rfl, t1, t2, fun j q => absurd q (Nat.not_lt_zero _)⟩ (by omega) (by omega)
    · obtain ⟨rfl, u1, u2, u3⟩ := hJ
      rw [ltT (a := (m : Int)) (b := (k : Int)) (by omega) (by omega) (by omega) (by omega) (by omega), if_pos rfl, lays_X9 (by omega) (by omega) (by omega) (by omega), bd1_s]
      refine hy _ _ ⟨by omega, Tb_put u1 (by omega) (by omega) (by omega) (by omega) (by omega), fun i j q1 q2 => ?_, fun j q1 => ?_⟩
      · rw [put2_at _ _ (by omega) (by omega) (by omega) (by omega)]
        by_cases c : (i = k ∧ j = m) ∨ (i = m ∧ j = k)
        · rw [if_pos c]
        · rw [if_neg c]
          exact u2 i j q1 q2
      · rw [put2_at _ _ (by omega) (by omega) (by omega) (by omega)]
        by_cases c : (k = k ∧ j = m) ∨ (k = m ∧ j = k)
        · rw [if_pos c]
        · rw [if_neg c]
          exact u3 j (by omega)
    · obtain ⟨rfl, u1, u2, u3⟩ := hJ
      rw [ltF (a := (k : Int)) (b := (k : Int)) (by omega) (by omega) (by omega) (by omega) (by omega), if_neg (by decide)]
      refine hn _ _ _ _ ⟨by omega, ⟨u1, fun i j q1 q2 => ?_⟩, fun i hi => ?_⟩
      · by_cases c : i = k
        · subst c
          exact u3 j q1
        · exact u2 i j q1 (by omega)
      · by_cases c : i = k
        · subst c
          rw [up_eq, up_eq]
          exact ⟨rfl, rfl⟩
        · rw [up_ne _ _ c, up_ne _ _ c]
          exact t3 i (by omega)
  · obtain ⟨rfl, t1, t2⟩ := hI
    exact ⟨a2, a3, a4, rfl, t1, t2⟩
theorem st_0 {x : Nat → Int} {X : Nat → Nat → Int} {kx : Nat → Int64} {it : Nat → Nat → Int64} {F : Nat → Int} {B : Nat → Nat → Int} {cl bt : Nat → Int64} (h : Rel x X kx it F B cl bt) (p1 : Int) (g1 : rg p1) : ∃ (r : Int) (o0 : Int) (o1 : Nat → Int) (o2 : Nat → Int) (o3 : Nat → Int) (o0' : Int) (o1' : Nat → Int) (o2' : Nat → Int) (o3' : Nat → Int), f_X8_points p1 (x 1) (X 0) (X 1) (X 2) = some (r, o0, o1, o2, o3) ∧ f_X9_points p1 (F 0) (B 1) (B 2) (B 3) = some (r, o0', o1', o2', o3') ∧ Rel (up x 1 o0) (up (up (up X 0 o1) 1 o2) 2 o3) kx it (up F 0 o0') (up (up (up B 1 o1') 2 o2') 3 o3') cl bt := by
  obtain ⟨⟨⟨e0, h3, h5, tg, tf, ag⟩, hNu, hMp, hSe, hEv, hBo⟩, hC, hI, hSp, hHu, hT, hTa⟩ := h
  by_cases c : 3 ≤ p1 ∧ p1 ≤ 5
  · obtain ⟨o, nu, im, a1, ⟨a2, a3⟩, a4⟩ := begin_X2 (s := x 1) (nu := X 1) (im := X 2) c.1 c.2 tg
    obtain ⟨o', nu', im', b1, ⟨b2, b3⟩, b4⟩ := points_X9 (s := x 1) (nu := B 2) (im := B 3) c.1 c.2 tf
    refine ⟨x 1, p1, o, nu, im, p1, o', nu', im', ?_, by rw [e0]; exact b1, ⟨⟨rfl, c.1, c.2, a2, b2, ?_⟩, ?_, ?_, hSe, hEv, hBo⟩, hC, hI, hSp, hHu, hT, hTa⟩
    · unfold f_X8_points
      rw [a1]
      rfl
    · show Ag p1 o o'
      intro i j hi hj
      obtain ⟨m1, m2, m3, m4⟩ := a2 i j (by omega) (by omega)
      obtain ⟨n1, n2, n3, n4⟩ := b2 i j (by omega) (by omega)
      by_cases e : i = j
      · subst e
        rw [m4, n4]
      · by_cases l : i < j
        · rw [a3 i j l hj, n3, b3 j i l (by omega)]
        · rw [m3, a3 j i (by omega) hi, b3 i j (by omega) (by omega)]
    · intro k hk
      show nu k = nu' k ∧ 0 ≤ nu k ∧ nu k ≤ 160
      rw [(a4 k hk).1, (b4 k hk).1]
      exact ⟨rfl, by omega, by omega⟩
    · intro k hk
      show im k = im' k ∧ 0 ≤ im k ∧ im k < 5 ∧ ((k : Int) < p1 → im k < p1)
      rw [(a4 k hk).2, (b4 k hk).2]
      exact ⟨rfl, by omega, by omega, fun q => q⟩
  · refine ⟨-2, x 1, X 0, X 1, X 2, x 1, B 1, B 2, B 3, ?_, ?_, ⟨⟨rfl, h3, h5, tg, tf, ag⟩, hNu, hMp, hSe, hEv, hBo⟩, hC, hI, hSp, hHu, hT, hTa⟩
    · unfold f_X8_points f_X2_begin
      obtain ⟨z1, z2⟩ := g1
      by_cases d : p1 < 3
      · simp only [jn, ltT (a := p1) (b := 3) (by omega) (by omega) (by omega) (by omega) (by omega)]
        rfl
      · simp only [jn, ltF (a := p1) (b := 3) (by omega) (by omega) (by omega) (by omega) (by omega), ltT (a := 5) (b := p1) (by omega) (by omega) (by omega) (by omega) (by omega)]
        rfl
    · unfold f_X9_points
      rw [in_X9 g1 ⟨by omega, by omega⟩ ⟨by omega, by omega⟩, b01_f c, e0]
      rfl
