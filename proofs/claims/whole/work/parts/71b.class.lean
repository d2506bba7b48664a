/-! PURE PART: the class's corners, all of them -/
def cn2 (n k : Nat) : Nat → Nat
  | 0 => 0
  | m + 1 => cn2 n k m + (if k < m then n - (m + 1) else 0)
def cn1 (n : Nat) : Nat → Nat
  | 0 => 0
  | k + 1 => cn1 n k + cn2 n k n
theorem cn2_0 (n k : Nat) : ∀ m, m ≤ k + 1 → cn2 n k m = 0
  | 0, _ => rfl
  | m + 1, h => by
    show cn2 n k m + (if k < m then n - (m + 1) else 0) = 0
    rw [cn2_0 n k m (by omega), if_neg (by omega)]
theorem cn_lt : ∀ n : Fin 6, ∀ k m l : Fin 5, k.val < m.val → m.val < l.val → l.val < n.val → cn1 n.val k.val + cn2 n.val k.val m.val + (l.val - (m.val + 1)) + 1 ≤ 10 := by decide +kernel
theorem cn_10 : ∀ n : Fin 6, cn1 n.val n.val ≤ 10 := by decide +kernel
def RD (n : Nat) (g : Nat → Int) (S : Nat → Prop) (x y z : Nat) : Prop := (∃ F, EXT 0 n g F x y z ∧ S (kcode n F)) ∧ ∃ F, EXT 1 n g F x y z ∧ S (kcode n F)
theorem RD_m {n : Nat} {g : Nat → Int} {S S' : Nat → Prop} {x y z : Nat} (m : ∀ v, S v → S' v) (h : RD n g S x y z) : RD n g S' x y z := by
  obtain ⟨⟨F, a1, a2⟩, G, b1, b2⟩ := h
  exact ⟨⟨F, a1, m _ a2⟩, G, b1, m _ b2⟩
theorem threes_X0 {n h0 : Nat} {g nu : Nat → Int} {ks : Nat → Int64} {S0 : Nat → Prop} (h5 : n ≤ 5) (tg : Tb g) (T : TAB n g) (hh : h0 ≤ 5) (H : HL h0 ks S0) (HS : ∀ v, S0 v → CSv n g v) : wp (f_X0_addRoundsOfThree h0 n g nu ks) (fun o => ∃ (h : Nat) (S : Nat → Prop), o.1 = h ∧ h ≤ 25 ∧ HL h o.2.2 S ∧ (∀ v, S0 v → S v) ∧ (∀ v, S v → CSv n g v) ∧ ∀ x y z, x < y → y < z → z < n → RD n g S x y z) := by
  unfold f_X0_addRoundsOfThree
  refine w_q4 (fun k v hI nu ks => v = (k : Int) ∧ ∃ (h : Nat) (S : Nat → Prop), hI = h ∧ h ≤ 5 + 2 * cn1 n k ∧ HL h ks S ∧ (∀ v, S0 v → S v) ∧ (∀ v, S v → CSv n g v) ∧ ∀ x, x < k → ∀ y z, x < y → y < z → z < n → RD n g S x y z) n 0 ⟨rfl, h0, S0, rfl, by omega, H, fun v q => q, HS, fa_0⟩ (by omega) (by omega) (fun k hk v hI nu ks hJ nx hn => ?_) (fun v hI nu ks hJ nx => ?_)
  · obtain ⟨rfl, h, S, rfl, t1, t2, t3, t4, t5⟩ := hJ
    refine w_ltT (by omega) ?_
    refine w_l (fun x1 e1 => ?_)
    refine w_q4 (fun m v hI nu ks => v = (m : Int) ∧ k < m ∧ ∃ (h : Nat) (S : Nat → Prop), hI = h ∧ h ≤ 5 + 2 * (cn1 n k + cn2 n k m) ∧ HL h ks S ∧ (∀ v, S0 v → S v) ∧ (∀ v, S v → CSv n g v) ∧ (∀ x, x < k → ∀ y z, x < y → y < z → z < n → RD n g S x y z) ∧ ∀ y, y < m → k < y → ∀ z, y < z → z < n → RD n g S k y z) n (k + 1) ⟨by omega, by omega, h, S, rfl, by rw [cn2_0 n k (k + 1) (by omega)]; omega, t2, t3, t4, t5, fun y a b => absurd a (by omega)⟩ (by omega) (by omega) (fun m hm v hI nu ks hJ ny hy => ?_) (fun v hI nu ks hJ ny => ?_)
    · obtain ⟨rfl, km, h, S, rfl, u1, u2, u3, u4, u5, u6⟩ := hJ
      refine w_ltT (by omega) ?_
      refine w_l (fun x2 e2 => ?_)
      refine w_q4 (fun l v hI nu ks => v = (l : Int) ∧ m < l ∧ ∃ (h : Nat) (S : Nat → Prop), hI = h ∧ h ≤ 5 + 2 * (cn1 n k + cn2 n k m + (l - (m + 1))) ∧ HL h ks S ∧ (∀ v, S0 v → S v) ∧ (∀ v, S v → CSv n g v) ∧ (∀ x, x < k → ∀ y z, x < y → y < z → z < n → RD n g S x y z) ∧ (∀ y, y < m → k < y → ∀ z, y < z → z < n → RD n g S k y z) ∧ ∀ z, z < l → m < z → RD n g S k m z) n (m + 1) ⟨by omega, by omega, h, S, rfl, by omega, u2, u3, u4, u5, u6, fun z a b => absurd a (by omega)⟩ (by omega) (by omega) (fun l hl v hI nu ks hJ nz hz => ?_) (fun v hI nu ks hJ nz => ?_)
      · obtain ⟨rfl, ml, h, S, rfl, v1, v2, v3, v4, v5, v6, v7⟩ := hJ
        refine w_ltT (by omega) ?_
        have cl := cn_lt ⟨n, by omega⟩ ⟨k, by omega⟩ ⟨m, by omega⟩ ⟨l, by omega⟩ km ml hl
        have cl' : cn1 n k + cn2 n k m + (l - (m + 1)) + 1 ≤ 10 := cl
        refine w_b3 (three_X0 h5 tg T km ml hl (by omega) v2 v4) (fun a b c habc => ?_)
        obtain ⟨h', S', e1, e2, e3, e4, e5, e6, e7⟩ := habc
        refine hz _ _ _ _ ⟨by omega, by omega, h', S', e1, by omega, e3, fun v q => e4 v (v3 v q), e5, fun x a1 y z a2 a3 a4 => RD_m e4 (v5 x a1 y z a2 a3 a4), fun y a1 a2 z a3 a4 => RD_m e4 (v6 y a1 a2 z a3 a4), fa_s (fun z a1 a2 => RD_m e4 (v7 z a1 a2)) (fun _ => ⟨e6, e7⟩)⟩
      · obtain ⟨rfl, ml, h, S, rfl, v1, v2, v3, v4, v5, v6, v7⟩ := hJ
        refine w_ltF (by omega) ?_
        refine hy _ _ _ _ ⟨by omega, by omega, h, S, rfl, ?_, v2, v3, v4, v5, fa_s v6 (fun _ z a b => v7 z b a)⟩
        show h ≤ 5 + 2 * (cn1 n k + (cn2 n k m + (if k < m then n - (m + 1) else 0)))
        rw [if_pos km]
        omega
    · obtain ⟨rfl, km, h, S, rfl, u1, u2, u3, u4, u5, u6⟩ := hJ
      refine w_ltF (by omega) ?_
      exact hn _ _ _ _ ⟨by omega, h, S, rfl, u1, u2, u3, u4, fa_s u5 (fun y z a b c => u6 y (by omega) a z b c)⟩
  · obtain ⟨rfl, h, S, rfl, t1, t2, t3, t4, t5⟩ := hJ
    refine w_ltF (by omega) ?_
    have c10 : cn1 n n ≤ 10 := cn_10 ⟨n, by omega⟩
    exact w_s ⟨h, S, rfl, by omega, t2, t3, t4, fun x y z a b c => t5 x (by omega) y z a b c⟩
theorem areN_X0 {n : Nat} {nu : Nat → Int} (h5 : n ≤ 5) (hf : FR n nu) : wp (f_X0_areNumbers n nu) (fun r => bI r (F80 n nu)) := by
  unfold f_X0_areNumbers
  refine w_q1 (fun k v => v = (k : Int) ∧ ∀ x, x < k → 0 ≤ nu x ∧ nu x ≤ 80) n 0 ⟨rfl, fa_0⟩ (by omega) (by omega) (fun k hk v hI nx hn => ?_) (fun v hI nx => ?_)
  · obtain ⟨rfl, t1⟩ := hI
    have fk := hf k hk
    refine w_ltT (by omega) ?_
    refine w_gi (by omega) ?_
    rw [ix_nat (show k < 2147483648 by omega)]
    refine w_j ?_
    refine w_lt (by omega) (fun c => w_s (bI_0 (fun q => by have := q k hk; omega))) (fun c => ?_)
    refine w_gi (by omega) ?_
    exact w_lt (by omega) (fun c => w_s (bI_0 (fun q => by have := q k hk; omega))) (fun c => hn _ ⟨by omega, fa_s t1 (by omega)⟩)
  · obtain ⟨rfl, t1⟩ := hI
    refine w_ltF (by omega) ?_
    exact w_s (bI_1 t1)
theorem cyc_five {s : Nat → Nat} {a b c d : Nat} (p : 0 < a ∧ a < 5 ∧ 0 < b ∧ b < 5 ∧ 0 < c ∧ c < 5 ∧ 0 < d ∧ d < 5) (q : a ≠ b ∧ a ≠ c ∧ a ≠ d ∧ b ≠ c ∧ b ≠ d ∧ c ≠ d) (s0 : s 0 = a) (sa : s a = b) (sb : s b = c) (sc : s c = d) (sd : s d = 0) {u : Nat} (hu : u < 5) : CYC s 5 u 5 := by
  have all : u = 0 ∨ u = a ∨ u = b ∨ u = c ∨ u = d := by omega
  unfold CYC
  rcases all with rfl | rfl | rfl | rfl | rfl
  all_goals
    refine ⟨by simp only [itf, s0, sa, sb, sc, sd], fun j j1 j2 => ?_⟩
    have : j = 1 ∨ j = 2 ∨ j = 3 ∨ j = 4 := by omega
    rcases this with rfl | rfl | rfl | rfl <;> simp only [itf, s0, sa, sb, sc, sd] <;> omega
theorem five_corn {g F : Nat → Int} {a b c d : Nat} (tg : Tb g) (p : 0 < a ∧ a < 5 ∧ 0 < b ∧ b < 5 ∧ 0 < c ∧ c < 5 ∧ 0 < d ∧ d < 5) (q : a ≠ b ∧ a ≠ c ∧ a ≠ d ∧ b ≠ c ∧ b ≠ d ∧ c ≠ d) (f8 : F80 5 F) (K : KEEP 5 g F) (E : FIVE g F a b c d) : CORN 5 g F := by
  obtain ⟨e1, e2, e3, e4, e5⟩ := E
  refine ⟨f8, K, fun i => if i = 0 then a else if i = a then b else if i = b then c else if i = c then d else 0, fun i hi => ?_, fun u hu => ⟨5, rfl, by omega, ?_⟩⟩
  · show (if i = 0 then a else if i = a then b else if i = b then c else if i = c then d else 0) < 5 ∧ TI g F i (if i = 0 then a else if i = a then b else if i = b then c else if i = c then d else 0)
    by_cases c0 : i = 0
    · rw [if_pos c0, c0]
      exact ⟨by omega, e1⟩
    · rw [if_neg c0]
      by_cases c1 : i = a
      · rw [if_pos c1, c1]
        exact ⟨by omega, e2⟩
      · rw [if_neg c1]
        by_cases c2 : i = b
        · rw [if_pos c2, c2]
          exact ⟨by omega, e3⟩
        · rw [if_neg c2]
          by_cases c3 : i = c
          · rw [if_pos c3, c3]
            exact ⟨by omega, e4⟩
          · rw [if_neg c3]
            have : i = d := by omega
            rw [this]
            exact ⟨by omega, e5⟩
  · refine cyc_five (s := fun i => if i = 0 then a else if i = a then b else if i = b then c else if i = c then d else 0) p q (if_pos rfl) ?_ ?_ ?_ ?_ hu
    · show (if a = 0 then a else if a = a then b else _) = b
      rw [if_neg (by omega), if_pos rfl]
    · show (if b = 0 then a else if b = a then b else if b = b then c else _) = c
      rw [if_neg (by omega), if_neg (by omega), if_pos rfl]
    · show (if c = 0 then a else if c = a then b else if c = b then c else if c = c then d else 0) = d
      rw [if_neg (by omega), if_neg (by omega), if_neg (by omega), if_pos rfl]
    · show (if d = 0 then a else if d = a then b else if d = b then c else if d = c then d else 0) = 0
      rw [if_neg (by omega), if_neg (by omega), if_neg (by omega), if_neg (by omega)]
