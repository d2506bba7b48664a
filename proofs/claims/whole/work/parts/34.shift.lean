theorem i2l_ti {a : Int} (h : rg a) : (i2lI a).toInt = a := by
  unfold i2lI
  rw [Int32.toInt_toInt64, jz_ti h.1 h.2]
theorem lcm_gt {a b c : Int} (ha : rg a) (hb : rg b) (hc : rg c) : ltI 0 (lcmI (i2lI a + i2lI b) (i2lI c)) = decide (c < a + b) := by
  have e1 : (i2lI a + i2lI b).toInt = a + b := by
    rw [Int64.toInt_add, i2l_ti ha, i2l_ti hb]
    obtain ⟨h1, h2⟩ := ha
    obtain ⟨h3, h4⟩ := hb
    exact Int.bmod_eq_of_le_mul_two (by omega) (by omega)
  have e2 := i2l_ti hc
  unfold lcmI lg_cmp
  by_cases q : c < a + b
  · have q2 : (i2lI a + i2lI b) > i2lI c := Int64.lt_iff_toInt_lt.mpr (by rw [e1, e2]; exact q)
    rw [if_pos q2, decide_eq_true q]
    decide
  · have q2 : ¬ (i2lI a + i2lI b) > i2lI c := fun z => q (by have := Int64.lt_iff_toInt_lt.mp z; rw [e1, e2] at this; exact this)
    rw [if_neg q2, decide_eq_false q]
    by_cases q3 : (i2lI a + i2lI b) = i2lI c
    · rw [if_pos q3]; decide
    · rw [if_neg q3]; decide
theorem hasRun_X5 {t : Nat} {p q : Int} {so le : Nat → Int} (ht : t < 6) (hp : rg p) (hq : rg q) (h1 : -1 ≤ so t) (h2 : so t ≤ 4) (h3 : 0 ≤ le t) (h4 : le t ≤ 60) (hn : so t ≠ -1) : f_X5_hasRun t p q so le = some (b01 (0 ≤ p ∧ 0 ≤ q ∧ p + q ≤ le t)) := by
  unfold f_X5_hasRun
  have e1 : iin (t : Int) 6 = true := iin_t (by omega) (by omega) (by omega)
  rw [holdsN_X5 ht h1 h2, b01_f hn]
  obtain ⟨g1, g2⟩ := hp
  obtain ⟨g3, g4⟩ := hq
  have l1 : ltI q 0 = decide (q < 0) := ltI_eq (by omega) (by omega) (by omega) (by omega)
  have l2 : ltI p 0 = decide (p < 0) := ltI_eq (by omega) (by omega) (by omega) (by omega)
  have l3 : ltI (le t) q = decide (le t < q) := ltI_eq (by omega) (by omega) (by omega) (by omega)
  by_cases c1 : q < 0
  · simp only [bd1_s, jn, l1, decide_eq_true c1]
    rw [if_pos (by decide), if_pos trivial, b01_f (by omega)]
  · have l4 : ltI (le t - q) p = decide (le t - q < p) := ltI_eq (by omega) (by omega) (by omega) (by omega)
    simp only [bd1_s, jn, grd_s e1, ix_nat (show t < 2147483648 by omega), l1, l2, l3, l4, decide_eq_true_eq, grd_s isB_0, grd_s isB_1]
    rw [if_pos (by decide)]
    unfold b01
    repeat' split
    all_goals first | rfl | omega
theorem st_36 {x : Nat → Int} {X : Nat → Nat → Int} {kx : Nat → Int64} {it : Nat → Nat → Int64} {F : Nat → Int} {B : Nat → Nat → Int} {cl bt : Nat → Int64} (h : Rel x X kx it F B cl bt) (p1 : Int) (g1 : rg p1) (p2 : Int) (g2 : rg p2) (p3 : Int) (g3 : rg p3) (p4 : Int) (g4 : rg p4) (p5 : Int) (g5 : rg p5) : ∃ (r : Int) (o0 : Nat → Nat → Int64) (o0' : Nat → Int64) (o1' : Nat → Int64), f_X8_shift p1 p2 p3 p4 p5 it (X 21) (X 22) = some (r, o0) ∧ f_X9_shift p1 p2 p3 p4 p5 (B 16) (B 17) cl bt = some (r, o0', o1') ∧ Rel x X kx o0 F B o0' o1' := by
  obtain ⟨hS, hC, hI, hSp, hHu, hT, hTa⟩ := h
  unfold f_X8_shift f_X9_shift
  rw [has_X5 g1, isTape_X9 g1, has_X5 g3, isTape_X9 g3]
  by_cases c1 : 0 ≤ p1 ∧ p1 < 6
  · by_cases c3 : 0 ≤ p3 ∧ p3 < 6
    · rw [b01_t c1, b01_t c3]
      obtain ⟨t, rfl⟩ := toN c1.1
      obtain ⟨u, rfl⟩ := toN c3.1
      have ht : t < 6 := by omega
      have hu : u < 6 := by omega
      have e1 : iin (t : Int) 6 = true := iin_t (by omega) (by omega) (by omega)
      have e2 : ix (t : Int) = t := ix_nat (by omega)
      have e3 : iin (u : Int) 6 = true := iin_t (by omega) (by omega) (by omega)
      have e4 : ix (u : Int) = u := ix_nat (by omega)
      obtain ⟨a1, a2, a3, a4, a5, a6, a7⟩ := hTa t ht
      obtain ⟨b1, b2, b3, b4, b5, b6, b7⟩ := hTa u hu
      rw [holdsN_X5 ht a2 a3, holdsN_X5 hu b2 b3]
      by_cases ct : X 21 t = -1
      · refine ⟨-11, it, cl, bt, ?_, ?_, hS, hC, hI, hSp, hHu, hT, hTa⟩
        · rw [b01_t ct]; rfl
        · simp only [bd1_s, jn, grd_s e1, e2, ← a1, ct]
          rfl
      · by_cases cu : X 21 u = -1
        · refine ⟨-11, it, cl, bt, ?_, ?_, hS, hC, hI, hSp, hHu, hT, hTa⟩
          · rw [b01_f ct, b01_t cu]; rfl
          · simp only [bd1_s, jn, grd_s e1, grd_s e3, e2, e4, ← a1, ← b1, cu, ltF (a := X 21 t) (b := 0) (by omega) (by omega) (by omega) (by omega) (by omega)]
            rfl
        · rw [b01_f ct, b01_f cu]
          have l1 : ltI (X 21 t) 0 = false := ltF (by omega) (by omega) (by omega) (by omega) (by omega)
          have l2 : ltI (X 21 u) 0 = false := ltF (by omega) (by omega) (by omega) (by omega) (by omega)
          by_cases cs : X 21 t = X 21 u
          · have q1 : eqI (X 21 t) (X 21 u) = true := by rw [cs]; exact decide_eq_true rfl
            rw [hasRun_X5 ht g2 g5 a2 a3 a5 a6 ct, hasRun_X5 hu g4 g5 b2 b3 b5 b6 cu]
            have k1 := lcm_gt g2 g5 (c := X 22 t) ⟨by omega, by omega⟩
            have k2 := lcm_gt g4 g5 (c := X 22 u) ⟨by omega, by omega⟩
            have m5 : ltI p5 0 = decide (p5 < 0) := ltI_eq g5.1 g5.2 (by omega) (by omega)
            have m2 : ltI p2 0 = decide (p2 < 0) := ltI_eq g2.1 g2.2 (by omega) (by omega)
            have m4 : ltI p4 0 = decide (p4 < 0) := ltI_eq g4.1 g4.2 (by omega) (by omega)
            by_cases cr : (0 ≤ p2 ∧ 0 ≤ p5 ∧ p2 + p5 ≤ X 22 t) ∧ (0 ≤ p4 ∧ 0 ≤ p5 ∧ p4 + p5 ≤ X 22 u)
            · obtain ⟨⟨r1, r2, r3⟩, r4, -, r6⟩ := cr
              obtain ⟨i, rfl⟩ := toN r1
              obtain ⟨j, rfl⟩ := toN r4
              obtain ⟨n, rfl⟩ := toN r2
              have ei : ix (i : Int) = i := ix_nat (by omega)
              have ej : ix (j : Int) = j := ix_nat (by omega)
              have en : ix (n : Int) = n := ix_nat (by omega)
              have ec : cpyOk (i : Int) j n 60 60 = true := by
                have z : ∀ k : Nat, k < 100 → ¬ jz (k : Int) < 0 := fun k hk => by
                  rw [Int32.lt_iff_toInt_lt, jz_ti (by omega) (by omega)]
                  simp
                unfold cpyOk
                rw [decide_eq_false (z i (by omega)), decide_eq_false (z j (by omega)), decide_eq_false (z n (by omega)), ei, ej, en, decide_eq_true (by omega), decide_eq_true (by omega)]
                rfl
              have lp1 : lq2 (fun (n110 : Int → (Nat → Int64) → Option (Int × (Nat → Int64) × (Nat → Int64))) (v6 : Int) (b : Nat → Int64) => if ltI v6 n = true then (grd (iin (((60 * (t : Int)) + i) + v6) 360) (lv ((cl (ix (((60 * (t : Int)) + i) + v6)))) (fun x137 => grd (iin v6 60) (n110 (v6 + 1) (up b (ix v6) x137))))) else (lq2 (fun (n147 : Int → (Nat → Int64) → Option (Int × (Nat → Int64) × (Nat → Int64))) (v6 : Int) (c : Nat → Int64) => if ltI v6 n = true then (grd (iin v6 60) (lv ((b (ix v6))) (fun x175 => grd (iin (((60 * (u : Int)) + j) + v6) 360) (n147 (v6 + 1) (up c (ix (((60 * (u : Int)) + j) + v6)) x175))))) else (some (n, c, b))) 300 0 cl)) 300 0 bt = some ((n : Int), itN (fun k c => up c (60 * u + j + k) (itN (fun k b => up b k (cl (60 * t + i + k))) bt n k)) cl n, itN (fun k b => up b k (cl (60 * t + i + k))) bt n) := by
                refine lq2_run (s1 := fun k => (k : Int)) (s2 := itN (fun k b => up b k (cl (60 * t + i + k))) bt) n (fun k hk nx => ?_) (fun nx => ?_) 300 0 (by omega) (by omega)
                · have f1 : iin (60 * (t : Int) + i + k) 360 = true := iin_t (by omega) (by omega) (by omega)
                  have f2 : ix (60 * (t : Int) + i + k) = 60 * t + i + k := by rw [ix_eq (by omega) (by omega)]; omega
                  have f3 : iin (k : Int) 60 = true := iin_t (by omega) (by omega) (by omega)
                  rw [ltT (by omega) (by omega) (by omega) (by omega) (by omega), if_pos rfl, grd_s f1, lv, grd_s f3, f2, ix_nat (by omega)]
                  rfl
                · rw [ltF (by omega) (by omega) (by omega) (by omega) (by omega), if_neg (by decide)]
                  generalize itN (fun k b => up b k (cl (60 * t + i + k))) bt n = bb
                  refine lq2_run (s1 := fun k => (k : Int)) (s2 := itN (fun k c => up c (60 * u + j + k) (bb k)) cl) n (fun k hk nx => ?_) (fun nx => ?_) 300 0 (by omega) (by omega)
                  · have f1 : iin (60 * (u : Int) + j + k) 360 = true := iin_t (by omega) (by omega) (by omega)
                    have f2 : ix (60 * (u : Int) + j + k) = 60 * u + j + k := by rw [ix_eq (by omega) (by omega)]; omega
                    have f3 : iin (k : Int) 60 = true := iin_t (by omega) (by omega) (by omega)
                    rw [ltT (by omega) (by omega) (by omega) (by omega) (by omega), if_pos rfl, grd_s f3, lv, grd_s f1, f2, ix_nat (by omega)]
                    rfl
                  · rw [ltF (by omega) (by omega) (by omega) (by omega) (by omega), if_neg (by decide)]
              have hb : ∀ k, k < n → itN (fun k b => up b k (cl (60 * t + i + k))) bt n k = cl (60 * t + i + k) := fun k hk => by
                have z := itN_inv (h := fun k b => up b k (cl (60 * t + i + k))) (a := bt) (fun m b => ∀ k, k < m → b k = cl (60 * t + i + k)) (fun k hk => absurd hk (Nat.not_lt_zero _)) (fun m b ih k hk => by
                  show up b m (cl (60 * t + i + m)) k = _
                  by_cases q : k = m
                  · rw [q, up_eq]
                  · rw [up_ne _ _ q]; exact ih k (by omega)) n
                exact z k hk
              generalize hbb : itN (fun k b => up b k (cl (60 * t + i + k))) bt n = bb at lp1 hb
              have hc : ∀ m, itN (fun k c => up c (60 * u + j + k) (bb k)) cl n m = if 60 * u + j ≤ m ∧ m < 60 * u + j + n then cl (60 * t + i + (m - (60 * u + j))) else cl m := fun m => by
                have z := itN_inv (h := fun k c => up c (60 * u + j + k) (bb k)) (a := cl) (fun e c => e ≤ n → c m = if 60 * u + j ≤ m ∧ m < 60 * u + j + e then cl (60 * t + i + (m - (60 * u + j))) else cl m) (fun _ => by rw [if_neg (by omega)]) (fun e c ih he => by
                  show up c (60 * u + j + e) (bb e) m = _
                  by_cases q : m = 60 * u + j + e
                  · rw [q, up_eq, if_pos (by omega), hb e (by omega)]
                    exact congrArg cl (by omega)
                  · rw [up_ne _ _ q, ih (by omega)]
                    by_cases q2 : 60 * u + j ≤ m ∧ m < 60 * u + j + e
                    · rw [if_pos q2, if_pos (by omega)]
                    · rw [if_neg q2, if_neg (by omega)]) n
                exact z (Nat.le_refl _)
              refine ⟨n, up it u (va_cpy (it t) (it u) i j n), itN (fun k c => up c (60 * u + j + k) (bb k)) cl n, bb, ?_, ?_, hS, hC, hI, hSp, hHu, hT, ?_⟩
              · rw [b01_t ⟨r1, r2, r3⟩, b01_t ⟨r4, r2, r6⟩]
                simp only [bd1_s, jn, grd_s e1, grd_s e3, grd_s ec, e2, e4, ei, ej, en, q1]
                rfl
              · simp only [bd1_s, jn, grd_s e1, grd_s e3, e2, e4, ← a1, ← b1, l1, l2, q1, m5, m2, m4, ← a4, ← b4, k1, k2]
                rw [if_neg (by decide), if_neg (by decide), if_neg (by decide), if_neg (by decide), if_pos trivial, decide_eq_false (by omega), decide_eq_false (by omega), decide_eq_false (by omega), decide_eq_false (by omega), decide_eq_false (by omega), if_neg (by decide), if_neg (by decide), if_neg (by decide), if_neg (by decide), if_neg (by decide)]
                exact lp1
              · intro w hw
                obtain ⟨d1, d2, d3, d4, d5, d6, d7⟩ := hTa w hw
                refine ⟨d1, d2, d3, d4, d5, d6, fun k hk => ?_⟩
                rw [hc]
                by_cases q : w = u
                · subst q
                  rw [up_eq]
                  unfold va_cpy
                  by_cases q2 : j ≤ k ∧ k < j + n
                  · rw [if_pos q2, if_pos (by omega), a7 (i + (k - j)) (by omega)]
                    exact congrArg cl (by omega)
                  · rw [if_neg q2, if_neg (by omega)]
                    exact b7 k hk
                · rw [up_ne _ _ q, if_neg (by omega)]
                  exact d7 k hk
            · refine ⟨-13, it, cl, bt, ?_, ?_, hS, hC, hI, hSp, hHu, hT, hTa⟩
              · simp only [bd1_s, jn, grd_s e1, grd_s e3, e2, e4, q1, b01_0]
                rw [if_neg (by decide), if_neg (by decide), if_pos (by decide), if_pos (by decide), if_pos trivial]
                by_cases z : 0 ≤ p2 ∧ 0 ≤ p5 ∧ p2 + p5 ≤ X 22 t
                · rw [decide_eq_true z, decide_eq_false (fun z2 => cr ⟨z, z2⟩)]
                  rfl
                · rw [decide_eq_false z]
                  rfl
              · simp only [bd1_s, jn, grd_s e1, grd_s e3, e2, e4, ← a1, ← b1, l1, l2, q1, m5, m2, m4, ← a4, ← b4, k1, k2]
                rw [if_neg (by decide), if_neg (by decide), if_neg (by decide), if_neg (by decide), if_pos trivial]
                by_cases z1 : p5 < 0
                · rw [decide_eq_true z1]; rfl
                · by_cases z2 : p2 < 0
                  · rw [decide_eq_false z1, decide_eq_true z2]; rfl
                  · by_cases z3 : p4 < 0
                    · rw [decide_eq_false z1, decide_eq_false z2, decide_eq_true z3]; rfl
                    · by_cases z4 : X 22 t < p2 + p5
                      · rw [decide_eq_false z1, decide_eq_false z2, decide_eq_false z3, decide_eq_true z4]; rfl
                      · rw [decide_eq_false z1, decide_eq_false z2, decide_eq_false z3, decide_eq_false z4, decide_eq_true (by omega : X 22 u < p4 + p5)]; rfl
          · have q1 : eqI (X 21 t) (X 21 u) = false := by rw [eqI_eq (by omega) (by omega) (by omega) (by omega)]; exact decide_eq_false cs
            refine ⟨-12, it, cl, bt, ?_, ?_, hS, hC, hI, hSp, hHu, hT, hTa⟩
            · simp only [bd1_s, jn, grd_s e1, grd_s e3, e2, e4, q1]
              rfl
            · simp only [bd1_s, jn, grd_s e1, grd_s e3, e2, e4, ← a1, ← b1, l1, l2, q1]
              rfl
    · rw [b01_t c1, b01_f c3]
      exact ⟨-1, it, cl, bt, rfl, rfl, hS, hC, hI, hSp, hHu, hT, hTa⟩
  · rw [b01_f c1]
    exact ⟨-1, it, cl, bt, rfl, rfl, hS, hC, hI, hSp, hHu, hT, hTa⟩
