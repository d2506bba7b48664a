/-! PURE PART: maps told by hand; rows judged -/
def MH (w : Int) (g a : Nat → Int) (x y : Nat) : Prop := g (5 * (a x).toNat + (a y).toNat) ≤ g (5 * x + y) ∧ (w = 0 → g (5 * (a x).toNat + (a y).toNat) = g (5 * x + y))
def MOk (n : Nat) (a : Nat → Int) : Prop := ∀ k, k < n → 0 ≤ a k ∧ a k < n
theorem map_X2 {n : Nat} {w : Int} {g a : Nat → Int} (h5 : n ≤ 5) (tg : Tb g) (ma : MOk n a) (hw : w = 0 ∨ w = 1) : wp (f_X2_mapHolds w n g a) (fun r => bI r (∀ x, x < n → ∀ y, y < n → x < y → MH w g a x y)) := by
  unfold f_X2_mapHolds
  refine w_q1 (fun k v => v = (k : Int) ∧ ∀ x, x < k → ∀ y, y < n → x < y → MH w g a x y) n 0 ⟨rfl, fa_0⟩ (by omega) (by omega) (fun k hk v hI nx hn => ?_) (fun v hI nx => ?_)
  · obtain ⟨rfl, t1⟩ := hI
    refine w_ltT (by omega) ?_
    refine w_l (fun x hx => ?_)
    refine w_q1 (fun m v => v = (m : Int) ∧ k < m ∧ ∀ y, y < m → k < y → MH w g a k y) n (k + 1) ⟨by omega, by omega, fun y hy q => absurd q (by omega)⟩ (by omega) (by omega) (fun m hm v hI ny hy => ?_) (fun v hI ny => ?_)
    · obtain ⟨rfl, km, t2⟩ := hI
      have m1 := ma k hk
      have m2 := ma m hm
      obtain ⟨i, hi⟩ := toN m1.1
      obtain ⟨j, hj⟩ := toN m2.1
      refine w_ltT (by omega) ?_
      refine w_gi (by omega) ?_
      refine w_gi (by omega) ?_
      rw [ix_nat (show k < 2147483648 by omega), ix_nat (show m < 2147483648 by omega), hi, hj]
      refine w_gap tg (by omega) (fun r e l u => ?_)
      refine w_gap tg (by omega) (fun r2 e2 l2 u2 => ?_)
      refine w_l (fun z hz => ?_)
      have ei : g (5 * (a k).toNat + (a m).toNat) = r := by
        rw [hi, hj, e]
        rfl
      have no : ¬ MH w g a k m → wp (some 0) (fun r => bI r (∀ x, x < n → ∀ y, y < n → x < y → MH w g a x y)) := fun q => w_s (bI_0 (fun al => q (al k hk m hm km)))
      have yes : MH w g a k m → wp (ny ((m : Int) + 1)) (fun r => bI r (∀ x, x < n → ∀ y, y < n → x < y → MH w g a x y)) := fun q => hy _ ⟨by omega, by omega, fa_s t2 (fun _ => q)⟩
      refine w_j ?_
      refine w_lt (by omega) (fun c => no (fun q => ?_)) (fun c => ?_)
      · have := q.1
        rw [ei] at this
        omega
      refine w_j ?_
      refine w_lt (by omega) (fun c2 => ?_) (fun c2 => ?_)
      · refine w_eq (by omega) (fun c3 => no (fun q => ?_)) (fun c3 => ?_)
        · have := q.2 c3
          rw [ei] at this
          omega
        · exact yes ⟨by rw [ei]; omega, fun z => absurd z c3⟩
      · exact yes ⟨by rw [ei]; omega, fun _ => by rw [ei]; omega⟩
    · obtain ⟨rfl, km, t2⟩ := hI
      refine w_ltF (by omega) ?_
      exact hn _ ⟨by omega, fa_s t1 t2⟩
  · obtain ⟨rfl, t1⟩ := hI
    refine w_ltF (by omega) ?_
    exact w_s (bI_1 t1)
theorem w_seq {α β : Type} {t : Option α} {u : Option β} {K : β → Prop} {P : α → Prop} (h : wp t P) (m : ∀ a, P a → wp u K) : wp u K := by
  obtain ⟨a, -, h2⟩ := h
  exact m a h2
theorem st_11 {x : Nat → Int} {X : Nat → Nat → Int} {kx : Nat → Int64} {it : Nat → Nat → Int64} {F : Nat → Int} {B : Nat → Nat → Int} {cl bt : Nat → Int64} (h : Rel x X kx it F B cl bt) (p1 : Int) (g1 : rg p1) : ∃ (r : Int), f_X8_mapOf p1 (x 1) (X 0) (X 2) = some r ∧ f_X9_mapOf p1 (F 0) (B 1) (B 3) = some r ∧ Rel x X kx it F B cl bt := by
  obtain ⟨⟨⟨e0, h3, h5, tg, tf, ag⟩, hNu, hMp, hSe, hEv, hBo⟩, hR⟩ := id h
  obtain ⟨n, hn⟩ := toN (show 0 ≤ x 1 by omega)
  have ag' : Ag n (X 0) (B 1) := hn ▸ ag
  have n3 : 3 ≤ n := by omega
  have n5 : n ≤ 5 := by omega
  obtain ⟨g11, g12⟩ := id g1
  have m8 : MOk n (X 2) := fun k hk => by
    have := hMp k (by omega)
    exact ⟨this.2.1, by have := this.2.2.2 (by omega); omega⟩
  have em : ∀ k, k < n → X 2 k = B 3 k := fun k hk => (hMp k (by omega)).1
  have fin : wp (f_X8_mapOf p1 n (X 0) (X 2)) (fun r => wp (f_X9_mapOf p1 n (B 1) (B 3)) (fun s => s = r)) := by
    unfold f_X8_mapOf
    refine w_b1s (has_X4 g1 (by omega) (by omega)) ?_
    refine w_B (fun c => ?_) (fun c => ?_)
    · have ref : ∀ (w : Int) (r : Int), p1 = 10 + w → (w = 0 ∨ w = 1) → bI r (∀ x, x < n → ∀ y, y < n → x < y → MH w (X 0) (X 2) x y) → wp (f_X9_mapOf p1 n (B 1) (B 3)) (fun s => s = r) := by
        intro w r hp hw hr
        have key : wp (f_X9_mapOf p1 n (B 1) (B 3)) (fun s => bI s (∀ x, x < n → ∀ y, y < x → MH w (B 1) (B 3) x y)) := by
          unfold f_X9_mapOf
          refine w_b1s (isPoint_X9 g1 (by omega) (by omega)) ?_
          refine w_B (fun _ => ?_) (fun z => absurd z c)
          refine w_b1s (in_X9 g1 ⟨by omega, by omega⟩ ⟨by omega, by omega⟩) ?_
          refine w_B (fun z => absurd (by omega) z) (fun _ => ?_)
          refine w_q1 (fun k v => v = (k : Int) ∧ ∀ x, x < k → ∀ y, y < x → MH w (B 1) (B 3) x y) n 0 ⟨rfl, fa_0⟩ (by omega) (by omega) (fun k hk v hI nx hn => ?_) (fun v hI nx => ?_)
          · obtain ⟨rfl, t1⟩ := hI
            refine w_ltT (by omega) ?_
            refine w_q1 (fun m v => v = (m : Int) ∧ ∀ y, y < m → MH w (B 1) (B 3) k y) k 0 ⟨rfl, fa_0⟩ (by omega) (by omega) (fun m hm v hI ny hy => ?_) (fun v hI ny => ?_)
            · obtain ⟨rfl, t2⟩ := hI
              have m1 := m8 k hk
              have m2 := m8 m (by omega)
              rw [em k hk] at m1
              rw [em m (by omega)] at m2
              obtain ⟨i, hi⟩ := toN m1.1
              obtain ⟨j, hj⟩ := toN m2.1
              refine w_ltT (by omega) ?_
              refine w_gi (by omega) ?_
              refine w_gi (by omega) ?_
              rw [ix_nat (show k < 2147483648 by omega), ix_nat (show m < 2147483648 by omega), hi, hj]
              refine w_d tf (by omega) (fun r e l u => ?_)
              have ei : B 1 (5 * (B 3 k).toNat + (B 3 m).toNat) = r := by
                rw [hi, hj, e]
                rfl
              have no : ¬ MH w (B 1) (B 3) k m → wp (some 0) (fun s => bI s (∀ x, x < n → ∀ y, y < x → MH w (B 1) (B 3) x y)) := fun q => w_s (bI_0 (fun al => q (al k hk m hm)))
              have yes : MH w (B 1) (B 3) k m → wp (ny ((m : Int) + 1)) (fun s => bI s (∀ x, x < n → ∀ y, y < x → MH w (B 1) (B 3) x y)) := fun q => hy _ ⟨by omega, fa_s t2 q⟩
              refine w_j ?_
              refine w_j ?_
              refine w_eq (by omega) (fun c => ?_) (fun c => ?_)
              · refine w_d tf (by omega) (fun r2 e2 l2 u2 => ?_)
                refine w_eq (by omega) (fun c2 => yes ⟨by rw [ei]; omega, fun _ => by rw [ei]; omega⟩) (fun c2 => no (fun q => ?_))
                have := q.2 (by omega)
                rw [ei] at this
                omega
              · refine w_d tf (by omega) (fun r2 e2 l2 u2 => ?_)
                refine w_lt (by omega) (fun c2 => no (fun q => ?_)) (fun c2 => yes ⟨by rw [ei]; omega, fun z => absurd z (by omega)⟩)
                have := q.1
                rw [ei] at this
                omega
            · obtain ⟨rfl, t2⟩ := hI
              refine w_ltF (by omega) ?_
              exact hn _ ⟨by omega, fa_s t1 t2⟩
          · obtain ⟨rfl, t1⟩ := hI
            refine w_ltF (by omega) ?_
            exact w_s (bI_1 t1)
        have mm : ∀ x y, x < n → y < n → (MH w (X 0) (X 2) x y ↔ MH w (B 1) (B 3) y x) := by
          intro x y hx hy
          have m1 := m8 x hx
          have m2 := m8 y hy
          obtain ⟨i, hi⟩ := toN m1.1
          obtain ⟨j, hj⟩ := toN m2.1
          unfold MH
          rw [← em x hx, ← em y hy, hi, hj]
          show X 0 (5 * i + j) ≤ X 0 (5 * x + y) ∧ (w = 0 → X 0 (5 * i + j) = X 0 (5 * x + y)) ↔ B 1 (5 * j + i) ≤ B 1 (5 * y + x) ∧ (w = 0 → B 1 (5 * j + i) = B 1 (5 * y + x))
          rw [ag' i j (by omega) (by omega), ag' x y (by omega) (by omega), (tf i j (by omega) (by omega)).2.2.1, (tf x y (by omega) (by omega)).2.2.1]
        refine w_m key (fun s hs => bI_u hs (bI_c hr ⟨fun h x hx y hy => (mm y x (by omega) hx).mp (h y (by omega) x hx hy), fun h x hx y hy l => (mm x y hx hy).mpr (h y hy x l)⟩))
      refine w_eq (by omega) (fun c2 => ?_) (fun c2 => ?_)
      · refine w_b1 (map_X2 n5 tg m8 (Or.inl rfl)) (fun r hr => ?_)
        refine w_b1s (oneIf_X8 (bI_or hr)) ?_
        exact w_s (ref 0 r (by omega) (Or.inl rfl) hr)
      refine w_eq (by omega) (fun c3 => ?_) (fun c3 => ?_)
      · refine w_b1 (map_X2 n5 tg m8 (Or.inr rfl)) (fun r hr => ?_)
        refine w_b1s (oneIf_X8 (bI_or hr)) ?_
        exact w_s (ref 1 r (by omega) (Or.inr rfl) hr)
      refine w_s ?_
      unfold f_X9_mapOf
      refine w_b1s (isPoint_X9 g1 (by omega) (by omega)) ?_
      refine w_B (fun _ => ?_) (fun z => absurd z c)
      refine w_b1s (in_X9 g1 ⟨by omega, by omega⟩ ⟨by omega, by omega⟩) ?_
      exact w_B (fun _ => w_s rfl) (fun z => absurd z (by omega))
    · obtain ⟨p, rfl⟩ := toN c.1
      refine w_gi (by omega) ?_
      refine w_s ?_
      unfold f_X9_mapOf
      refine w_b1s (isPoint_X9 g1 (by omega) (by omega)) ?_
      refine w_B (fun z => absurd c z) (fun _ => ?_)
      refine w_gi (by omega) ?_
      rw [ix_nat (show p < 2147483648 by omega)]
      exact w_s (em p (by omega)).symm
  obtain ⟨r, e1, e2⟩ := fin
  exact ⟨r, by rw [hn]; exact e1, by rw [e0, hn]; exact wp_e e2, h⟩
/-- loops of one shape, side by side -/
theorem rel32 {A1 A2 A3 B1 B2 α : Type} {f : (A1 → A2 → A3 → Option α) → A1 → A2 → A3 → Option α} {g : (B1 → B2 → Option α) → B1 → B2 → Option α} (I : Nat → A1 → A2 → A3 → B1 → B2 → Prop) (b : Nat) (hs : ∀ k, k < b → ∀ a1 a2 a3 b1 b2, I k a1 a2 a3 b1 b2 → ∀ nx ny, (∀ c1 c2 c3 d1 d2, I (k + 1) c1 c2 c3 d1 d2 → wp (nx c1 c2 c3) (fun r => wp (ny d1 d2) (fun s => s = r))) → wp (f nx a1 a2 a3) (fun r => wp (g ny b1 b2) (fun s => s = r))) (he : ∀ a1 a2 a3 b1 b2, I b a1 a2 a3 b1 b2 → ∀ nx ny, wp (f nx a1 a2 a3) (fun r => wp (g ny b1 b2) (fun s => s = r))) : ∀ (N k : Nat) (a1 : A1) (a2 : A2) (a3 : A3) (b1 : B1) (b2 : B2), I k a1 a2 a3 b1 b2 → k ≤ b → b - k < N → wp (lq3 f N a1 a2 a3) (fun r => wp (lq2 g N b1 b2) (fun s => s = r))
  | 0, _, _, _, _, _, _, _, _, h => absurd h (Nat.not_lt_zero _)
  | N + 1, k, a1, a2, a3, b1, b2, hI, hk, h => by
    show wp (f (lq3 f N) a1 a2 a3) (fun r => wp (g (lq2 g N) b1 b2) (fun s => s = r))
    rcases Nat.lt_or_eq_of_le hk with q | q
    · exact hs k q a1 a2 a3 b1 b2 hI _ _ (fun c1 c2 c3 d1 d2 hc => rel32 I b hs he N (k + 1) c1 c2 c3 d1 d2 hc q (by omega))
    · subst q
      exact he _ _ _ _ _ hI _ _
theorem st_29 {x : Nat → Int} {X : Nat → Nat → Int} {kx : Nat → Int64} {it : Nat → Nat → Int64} {F : Nat → Int} {B : Nat → Nat → Int} {cl bt : Nat → Int64} (h : Rel x X kx it F B cl bt) (p1 : Int) (g1 : rg p1) (p2 : Int) (g2 : rg p2) : ∃ (r : Int), f_X8_judge p1 p2 (x 1) (X 0) it (X 21) (X 22) = some r ∧ f_X9_judge p1 p2 (F 0) (B 1) (B 16) (B 17) cl = some r ∧ Rel x X kx it F B cl bt := by
  obtain ⟨⟨⟨e0, h3, h5, tg, tf, ag⟩, hNu, hMp, hSe, hEv, hBo⟩, hC, hIm, hSp, hHu, hT, hTa⟩ := id h
  obtain ⟨n, hn⟩ := toN (show 0 ≤ x 1 by omega)
  have ag' : Ag n (X 0) (B 1) := hn ▸ ag
  have n3 : 3 ≤ n := by omega
  have n5 : n ≤ 5 := by omega
  obtain ⟨g21, g22⟩ := id g2
  have fin : wp (f_X8_judge p1 p2 n (X 0) it (X 21) (X 22)) (fun r => wp (f_X9_judge p1 p2 n (B 1) (B 16) (B 17) cl) (fun s => s = r)) := by
    unfold f_X8_judge f_X9_judge
    refine w_b1s (has_X5 g1) ?_
    refine w_B (fun c => w_s ?_) (fun c => ?_)
    · refine w_b1s (isTape_X9 g1) ?_
      exact w_B (fun _ => w_s rfl) (fun z => absurd z c)
    obtain ⟨t, rfl⟩ := toN c.1
    obtain ⟨s1, s2, s3, s4, s5, s6, s7⟩ := hTa t (by omega)
    have head : ∀ {r : Int} {u : Option Int}, wp u (fun s => s = r) → wp (bd1 (f_X9_isTape (t : Int)) (fun r1 => if eqI r1 0 = true then (some (-1)) else u)) (fun s => s = r) := by
      intro r u hu
      refine w_b1s (isTape_X9 g1) ?_
      exact w_B (fun z => absurd c z) (fun _ => hu)
    have nonz : (B 16 t < 0 ∨ (p2 < 0 ∧ B 16 t = 2)) → wp (grd (iin (t : Int) 6) (jn (lq2 (fun (n36 : Int → Int → Option Int) (v3_36 : Int) (v4_36 : Int) => if ltI v4_36 n = true then (lv ((v4_36 + 1)) (fun x49 => lq2 (fun (n51 : Int → Int → Option Int) (v3_51 : Int) (v5_51 : Int) => if ltI v5_51 n = true then (grd (iin (t : Int) 6) (jn (some (100 + v3_51)) (fun (k85 : Option Int) => if ltI (B 16 t) 0 = true then k85 else (if ltI p2 0 = true then k85 else (grd (iin (t : Int) 6) (if ltI p2 ((B 17 t) - v3_51) = true then (grd (iin (((60 * (t : Int)) + p2) + v3_51) 360) (bd1 (f_X9_d v4_36 v5_51 (B 1)) (fun r108 => if eqI (lcmI (cl (ix (((60 * (t : Int)) + p2) + v3_51))) (i2lI r108)) 0 = true then (n51 (v3_51 + 1) (v5_51 + 1)) else (some ((10 * v4_36) + v5_51))))) else k85)))))) else (n36 v3_51 (v4_36 + 1))) 300 v3_36 x49)) else (some (-5))) 300 0 0) (fun (k31 : Option Int) => if ltI (B 16 t) 0 = true then k31 else (grd (iin (t : Int) 6) (if eqI (B 16 t) 2 = true then k31 else (some (-12))))))) (fun s => s = 100) := by
      intro hh
      refine w_gi (by omega) ?_
      refine w_j ?_
      have loop : wp (lq2 (fun (n36 : Int → Int → Option Int) (v3_36 : Int) (v4_36 : Int) => if ltI v4_36 n = true then (lv ((v4_36 + 1)) (fun x49 => lq2 (fun (n51 : Int → Int → Option Int) (v3_51 : Int) (v5_51 : Int) => if ltI v5_51 n = true then (grd (iin (t : Int) 6) (jn (some (100 + v3_51)) (fun (k85 : Option Int) => if ltI (B 16 t) 0 = true then k85 else (if ltI p2 0 = true then k85 else (grd (iin (t : Int) 6) (if ltI p2 ((B 17 t) - v3_51) = true then (grd (iin (((60 * (t : Int)) + p2) + v3_51) 360) (bd1 (f_X9_d v4_36 v5_51 (B 1)) (fun r108 => if eqI (lcmI (cl (ix (((60 * (t : Int)) + p2) + v3_51))) (i2lI r108)) 0 = true then (n51 (v3_51 + 1) (v5_51 + 1)) else (some ((10 * v4_36) + v5_51))))) else k85)))))) else (n36 v3_51 (v4_36 + 1))) 300 v3_36 x49)) else (some (-5))) 300 0 0) (fun s => s = 100) := by
        refine w_q2 (fun k u v => k = 0 ∧ u = 0 ∧ v = 0) n 0 ⟨rfl, rfl, rfl⟩ (by omega) (by omega) (fun k hk u v hI nx hn => ?_) (fun u v hI nx => ?_)
        · obtain ⟨rfl, rfl, rfl⟩ := hI
          refine w_ltT (by omega) ?_
          refine w_l (fun y ey => ?_)
          refine w_q2 (fun k u v => k = 0 ∧ u = 0 ∧ v = 1) n 0 ⟨rfl, rfl, by omega⟩ (by omega) (by omega) (fun k hk u v hI ny hy => ?_) (fun u v hI ny => ?_)
          · obtain ⟨rfl, rfl, rfl⟩ := hI
            refine w_ltT (by omega) ?_
            refine w_gi (by omega) ?_
            refine w_j ?_
            refine w_lt (by omega) (fun _ => w_s rfl) (fun c1 => ?_)
            refine w_lt (by omega) (fun _ => w_s rfl) (fun c2 => ?_)
            omega
          · omega
        · omega
      refine w_lt (by omega) (fun _ => loop) (fun c1 => ?_)
      refine w_gi (by omega) ?_
      exact w_eqT (by omega) loop
    refine w_b1s (holdsN_X5 (by omega) s2 s3) ?_
    refine w_B (fun c1 => ?_) (fun c1 => ?_)
    · refine w_gi (by omega) ?_
      rw [ix_nat (show t < 2147483648 by omega)]
      refine w_eq (by omega) (fun c2 => ?_) (fun c2 => ?_)
      · refine w_j ?_
        refine w_lt (by omega) (fun c3 => w_s (head (nonz (Or.inr ⟨c3, by omega⟩)))) (fun c3 => ?_)
        obtain ⟨p, rfl⟩ := toN c3
        unfold f_X8_judgeRow
        have main := rel32 (α := Int) (f := fun (n8 : Int → Int → Int → Option Int) (v3_8 : Int) (v4_8 : Int) (v5_8 : Int) => if ltI v5_8 n = true then (lv ((v5_8 + 1)) (fun x27 => lq3 (fun (n29 : Int → Int → Int → Option Int) (v3_29 : Int) (v4_29 : Int) (v6_29 : Int) => if ltI v6_29 n = true then (bd1 (f_X5_hasItem t v3_29 (X 21) (X 22)) (fun r50 => if eqI r50 0 = true then (some (100 + v4_29)) else (grd (iin t 6) (grd (iin v3_29 60) (bd1 (f_X4_gap v5_8 v6_29 n (X 0)) (fun r84 => if eqI (lcmI (it (ix t) (ix v3_29)) (i2lI r84)) 0 = true then (n29 (v3_29 + 1) (v4_29 + 1) (v6_29 + 1)) else (some ((10 * v5_8) + v6_29)))))))) else (n8 v3_29 v4_29 (v5_8 + 1))) 300 v3_8 v4_8 x27)) else (some (-5))) (g := fun (n36 : Int → Int → Option Int) (v3_36 : Int) (v4_36 : Int) => if ltI v4_36 n = true then (lv ((v4_36 + 1)) (fun x49 => lq2 (fun (n51 : Int → Int → Option Int) (v3_51 : Int) (v5_51 : Int) => if ltI v5_51 n = true then (grd (iin (t : Int) 6) (jn (some (100 + v3_51)) (fun (k85 : Option Int) => if ltI (B 16 t) 0 = true then k85 else (if ltI (p : Int) 0 = true then k85 else (grd (iin (t : Int) 6) (if ltI (p : Int) ((B 17 t) - v3_51) = true then (grd (iin (((60 * (t : Int)) + (p : Int)) + v3_51) 360) (bd1 (f_X9_d v4_36 v5_51 (B 1)) (fun r108 => if eqI (lcmI (cl (ix (((60 * (t : Int)) + (p : Int)) + v3_51))) (i2lI r108)) 0 = true then (n51 (v3_51 + 1) (v5_51 + 1)) else (some ((10 * v4_36) + v5_51))))) else k85)))))) else (n36 v3_51 (v4_36 + 1))) 300 v3_36 x49)) else (some (-5))) (fun k a1 a2 a3 b1 b2 => ∃ z : Nat, z ≤ 5 * k ∧ (z = 0 ∨ p + z ≤ 60) ∧ a1 = (p : Int) + (z : Int) ∧ a2 = (z : Int) ∧ a3 = (k : Int) ∧ b1 = (z : Int) ∧ b2 = (k : Int)) n (fun k hk a1 a2 a3 b1 b2 hI nx ny hn => ?_) (fun a1 a2 a3 b1 b2 hI nx ny => ?_) 300 0 p 0 0 0 0 ⟨0, by omega, by omega, by omega, rfl, rfl, rfl, rfl⟩ (by omega) (by omega)
        · refine w_b1 main (fun r hr => w_s (head ?_))
          refine w_gi (by omega) ?_
          refine w_j ?_
          refine w_ltF (by omega) ?_
          refine w_gi (by omega) ?_
          refine w_eqT (by omega) ?_
          exact hr
        · obtain ⟨z, hz, hzp, rfl, rfl, rfl, rfl, rfl⟩ := hI
          refine w_ltT (by omega) ?_
          refine w_l (fun y ey => ?_)
          refine w_m (rel32 (α := Int) (fun m a1 a2 a3 b1 b2 => ∃ z : Nat, z ≤ 5 * k + m ∧ (z = 0 ∨ p + z ≤ 60) ∧ k < m ∧ a1 = (p : Int) + (z : Int) ∧ a2 = (z : Int) ∧ a3 = (m : Int) ∧ b1 = (z : Int) ∧ b2 = (m : Int)) n (g := fun (n51 : Int → Int → Option Int) (v3_51 : Int) (v5_51 : Int) => if ltI v5_51 n = true then (grd (iin (t : Int) 6) (jn (some (100 + v3_51)) (fun (k85 : Option Int) => if ltI (B 16 t) 0 = true then k85 else (if ltI (p : Int) 0 = true then k85 else (grd (iin (t : Int) 6) (if ltI (p : Int) ((B 17 t) - v3_51) = true then (grd (iin (((60 * (t : Int)) + (p : Int)) + v3_51) 360) (bd1 (f_X9_d (k : Int) v5_51 (B 1)) (fun r108 => if eqI (lcmI (cl (ix (((60 * (t : Int)) + (p : Int)) + v3_51))) (i2lI r108)) 0 = true then (n51 (v3_51 + 1) (v5_51 + 1)) else (some ((10 * (k : Int)) + v5_51))))) else k85)))))) else (ny v3_51 ((k : Int) + 1))) (fun m hm a1 a2 a3 b1 b2 hI nw nz hw => ?_) (fun a1 a2 a3 b1 b2 hI nw nz => ?_) 300 (k + 1) ((p : Int) + (z : Int)) (z : Int) y (z : Int) y ⟨z, by omega, hzp, by omega, rfl, rfl, by omega, rfl, by omega⟩ (by omega) (by omega)) (fun r hr => ?_)
          · obtain ⟨z, hz, hzp, km, rfl, rfl, rfl, rfl, rfl⟩ := hI
            refine w_ltT (by omega) ?_
            refine w_b1s (hasItem_X5 (by omega) ⟨by omega, by omega⟩ s2 s3 s5 s6) ?_
            refine w_B (fun d => w_s ?_) (fun d => ?_)
            · refine w_ltT (by omega) ?_
              refine w_gi (by omega) ?_
              refine w_j ?_
              refine w_ltF (by omega) ?_
              refine w_ltF (by omega) ?_
              refine w_gi (by omega) ?_
              refine w_ltF (by omega) ?_
              exact w_s rfl
            · obtain ⟨d1, d2, d3⟩ := d
              refine w_gi (by omega) ?_
              refine w_gi (by omega) ?_
              refine w_gap tg (by omega) (fun r e l u => ?_)
              rw [show ((p : Int) + (z : Int)) = ((p + z : Nat) : Int) by omega, ix_nat (show t < 2147483648 by omega), ix_nat (show p + z < 2147483648 by omega), s7 (p + z) (by omega)]
              have tail : ∀ {u : Option Int} {v : Int}, wp u (fun s => s = v) → wp (if ltI ((m : Nat) : Int) n = true then (grd (iin (t : Int) 6) (jn (some (100 + (z : Int))) (fun (k85 : Option Int) => if ltI (B 16 t) 0 = true then k85 else (if ltI (p : Int) 0 = true then k85 else (grd (iin (t : Int) 6) (if ltI (p : Int) ((B 17 t) - (z : Int)) = true then (grd (iin (((60 * (t : Int)) + (p : Int)) + (z : Int)) 360) u) else k85)))))) else (ny (z : Int) ((k : Int) + 1))) (fun s => s = v) := by
                intro u v hu
                refine w_ltT (by omega) ?_
                refine w_gi (by omega) ?_
                refine w_j ?_
                refine w_ltF (by omega) ?_
                refine w_ltF (by omega) ?_
                refine w_gi (by omega) ?_
                refine w_ltT (by omega) ?_
                exact w_gi (by omega) hu
              have ic : ix (((60 * (t : Int)) + (p : Int)) + (z : Int)) = 60 * t + (p + z) := by
                rw [ix_eq (by omega) (by omega)]
                omega
              have er : r = B 1 (5 * k + m) := by rw [e, ag' k m (by omega) (by omega)]
              refine w_i (fun q => ?_) (fun q => ?_)
              · refine w_m (hw (((p + z : Nat) : Int) + 1) ((z : Int) + 1) ((m : Int) + 1) ((z : Int) + 1) ((m : Int) + 1) ⟨z + 1, by omega, by omega, by omega, by omega, by omega, by omega, by omega, by omega⟩) (fun v hv => ?_)
                refine tail ?_
                refine w_d tf (by omega) (fun r2 e2 l2 u2 => ?_)
                rw [ic, e2, ← er, q]
                exact hv
              · refine w_s (tail ?_)
                refine w_d tf (by omega) (fun r2 e2 l2 u2 => ?_)
                rw [ic, e2, ← er, q]
                exact w_s rfl
          · obtain ⟨z, hz, hzp, km, rfl, rfl, rfl, rfl, rfl⟩ := hI
            refine w_ltF (by omega) ?_
            refine w_m (hn ((p : Int) + z) z ((k : Int) + 1) z ((k : Int) + 1) ⟨z, by omega, hzp, rfl, rfl, by omega, rfl, by omega⟩) (fun v hv => ?_)
            refine w_ltF (by omega) ?_
            exact hv
          · refine w_ltT (by omega) ?_
            refine w_lz ?_
            subst ey
            exact hr
        · obtain ⟨z, hz, hzp, rfl, rfl, rfl, rfl, rfl⟩ := hI
          refine w_ltF (by omega) ?_
          refine w_s ?_
          refine w_ltF (by omega) ?_
          exact w_s rfl
      · refine w_s (head ?_)
        refine w_gi (by omega) ?_
        refine w_j ?_
        refine w_ltF (by omega) ?_
        refine w_gi (by omega) ?_
        refine w_eqF (by omega) ?_
        exact w_s rfl
    · refine w_s ?_
      rw [ix_nat (show t < 2147483648 by omega)]
      exact head (nonz (Or.inl (by omega)))
  obtain ⟨r, e1, e2⟩ := fin
  exact ⟨r, by rw [hn]; exact e1, by rw [e0, hn]; exact wp_e e2, h⟩
