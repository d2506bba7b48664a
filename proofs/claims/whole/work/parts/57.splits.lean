/-! PURE PART: what is told of splits -/
def KK (n : Nat) : Nat := 2 ^ (n - 1) - 1
theorem KK_c {n : Nat} (h3 : 3 ≤ n) (h5 : n ≤ 5) : (n = 3 ∧ KK n = 3) ∨ (n = 4 ∧ KK n = 7) ∨ (n = 5 ∧ KK n = 15) := by
  have hn : n = 3 ∨ n = 4 ∨ n = 5 := by omega
  rcases hn with rfl | rfl | rfl <;> decide
theorem KK_2 {n : Nat} (h3 : 3 ≤ n) (h5 : n ≤ 5) : 2 ^ n = 2 * KK n + 2 ∧ KK n ≤ 15 := ⟨(shl_n h3 h5).2.2, (shl_n h3 h5).2.1⟩
theorem spl_k {n k : Nat} (h3 : 3 ≤ n) (h5 : n ≤ 5) (hk : k < KK n) : Spl n (2 * k + 2) := by
  have := KK_2 h3 h5
  exact ⟨by omega, by omega, by omega⟩
theorem spl_n {n : Nat} (h3 : 3 ≤ n) (h5 : n ≤ 5) : ¬ Spl n (2 * KK n + 2) := fun h => by
  have := KK_2 h3 h5
  have := h.2.2
  omega
/-- the reference's loop over all splits -/
theorem w_spl {α : Type} {K : α → Prop} {n k : Nat} {f : Int → Option α} (h3 : 3 ≤ n) (h5 : n ≤ 5) (hk : k < KK n) (h : ∀ r, r = 1 → wp (f r) K) : wp (bd1 (f_X9_isSplit ((2 * k + 2 : Nat) : Int) n) f) K := by
  have t := KK_2 h3 h5
  refine w_b1s (isSplit_X9 ⟨by omega, by omega⟩ (by omega) (by omega)) ?_
  rw [b01_t ((Spl_i h3 h5).mpr (spl_k h3 h5 hk))]
  exact h 1 rfl
theorem w_spn {α : Type} {K : α → Prop} {n : Nat} {f : Int → Option α} (h3 : 3 ≤ n) (h5 : n ≤ 5) (h : ∀ r, r = 0 → wp (f r) K) : wp (bd1 (f_X9_isSplit ((2 * KK n + 2 : Nat) : Int) n) f) K := by
  have t := KK_2 h3 h5
  refine w_b1s (isSplit_X9 ⟨by omega, by omega⟩ (by omega) (by omega)) ?_
  rw [b01_f (fun c => spl_n h3 h5 ((Spl_i h3 h5).mp c))]
  exact h 0 rfl
theorem counting_X9 {n : Nat} {g : Nat → Int} (h3 : 3 ≤ n) (h5 : n ≤ 5) (tg : Tb g) : wp (f_X9_counting n g) (fun r => r = sm (fun j => if 0 < WT n g (2 * j + 2) then 1 else 0) (KK n)) := by
  unfold f_X9_counting
  have t := KK_2 h3 h5
  refine w_q2 (fun k u v => v = ((2 * k + 2 : Nat) : Int) ∧ u = sm (fun j => if 0 < WT n g (2 * j + 2) then 1 else 0) k) (KK n) 0 ⟨rfl, rfl⟩ (by omega) (by omega) (fun k hk u v hI nx hn => ?_) (fun u v hI nx => ?_)
  · obtain ⟨rfl, hu⟩ := hI
    obtain ⟨-, w2, w3⟩ := WT_X4 h3 h5 tg (spl_k h3 h5 hk)
    refine w_spl h3 h5 hk (fun r hr => ?_)
    refine w_eqF (by omega) ?_
    refine w_b1s (WT_X9 h3 h5 tg (spl_k h3 h5 hk)) ?_
    refine w_j ?_
    have s := sm_s (fun j => if 0 < WT n g (2 * j + 2) then (1 : Int) else 0) k
    refine w_lt (by omega) (fun c => ?_) (fun c => ?_)
    · refine w_lz ?_
      refine hn _ _ ⟨by omega, ?_⟩
      rw [s, if_pos c, hu]
    · refine w_lz ?_
      refine hn _ _ ⟨by omega, ?_⟩
      rw [s, if_neg (by omega), hu]
  · obtain ⟨rfl, hu⟩ := hI
    refine w_spn h3 h5 (fun r hr => ?_)
    refine w_eqT hr ?_
    exact w_s hu
def pI (s p q : Nat) : Int := if bq s p = bq s q then 0 else 1
theorem rest_X9 {n p q : Nat} {g : Nat → Int} (h3 : 3 ≤ n) (h5 : n ≤ 5) (tg : Tb g) (hp : p < n) (hq : q < n) : wp (f_X9_restOf p q n g) (fun r => r = 2 * g (5 * p + q) - sm (fun j => pI (2 * j + 2) p q * WT n g (2 * j + 2)) (KK n)) := by
  unfold f_X9_restOf
  have t := KK_2 h3 h5
  refine w_d tg (by omega) (fun z ez z0 z4 => ?_)
  refine w_l (fun y ey => ?_)
  refine w_q2 (fun k u v => v = ((2 * k + 2 : Nat) : Int) ∧ u = y - sm (fun j => pI (2 * j + 2) p q * WT n g (2 * j + 2)) k) (KK n) 0 ⟨rfl, by simp only [sm]; omega⟩ (by omega) (by omega) (fun k hk u v hI nx hn => ?_) (fun u v hI nx => ?_)
  · obtain ⟨rfl, hu⟩ := hI
    refine w_spl h3 h5 hk (fun r hr => ?_)
    refine w_eqF (by omega) ?_
    refine w_j ?_
    rw [shr_bit (by omega) (by omega), shr_bit (by omega) (by omega)]
    have b1 := bq_c (2 * k + 2) p
    have b2 := bq_c (2 * k + 2) q
    have s := sm_s (fun j => pI (2 * j + 2) p q * WT n g (2 * j + 2)) k
    refine w_eq (by omega) (fun c => ?_) (fun c => ?_)
    · refine w_lz ?_
      refine hn _ _ ⟨by omega, ?_⟩
      rw [s, hu, show pI (2 * k + 2) p q = 0 from if_pos (by omega)]
      omega
    · refine w_b1s (WT_X9 h3 h5 tg (spl_k h3 h5 hk)) ?_
      refine w_lz ?_
      refine hn _ _ ⟨by omega, ?_⟩
      rw [s, hu, show pI (2 * k + 2) p q = 1 from if_neg (by omega)]
      omega
  · obtain ⟨rfl, hu⟩ := hI
    refine w_spn h3 h5 (fun r hr => ?_)
    refine w_eqT hr ?_
    refine w_s ?_
    rw [hu, ey, ez]
/-- whether one is ahead of another -/
def ahd (n : Nat) (g : Nat → Int) (s t : Nat) : Int := if WT n g s < WT n g t ∨ (WT n g t = WT n g s ∧ t < s) then 1 else 0
def AH (n : Nat) (g : Nat → Int) (s : Nat) : Int := sm (fun j => ahd n g s (2 * j + 2)) (KK n)
theorem sm_le {f : Nat → Int} : ∀ n : Nat, (∀ i, i < n → 0 ≤ f i ∧ f i ≤ 1) → 0 ≤ sm f n ∧ sm f n ≤ n
  | 0, _ => ⟨Int.le_refl _, Int.le_refl _⟩
  | n + 1, h => by
    rw [sm_s]
    have := sm_le n (fun i hi => h i (by omega))
    have := h n (by omega)
    omega
theorem ahd_in (n : Nat) (g : Nat → Int) (s t : Nat) : 0 ≤ ahd n g s t ∧ ahd n g s t ≤ 1 := by
  unfold ahd
  split <;> omega
theorem AH_in {n : Nat} {g : Nat → Int} {s : Nat} (h3 : 3 ≤ n) (h5 : n ≤ 5) : 0 ≤ AH n g s ∧ AH n g s ≤ 15 := by
  have := sm_le (f := fun j => ahd n g s (2 * j + 2)) (KK n) (fun i _ => ahd_in _ _ _ _)
  have t := KK_2 h3 h5
  unfold AH
  omega
theorem ahead_X9 {n s : Nat} {g : Nat → Int} (h3 : 3 ≤ n) (h5 : n ≤ 5) (tg : Tb g) (hs : Spl n s) : wp (f_X9_aheadOf s n g) (fun r => r = AH n g s) := by
  unfold f_X9_aheadOf AH
  have t := KK_2 h3 h5
  obtain ⟨-, x2, x3⟩ := WT_X4 h3 h5 tg hs
  refine w_b1s (WT_X9 h3 h5 tg hs) ?_
  have s3 := hs.2.2
  refine w_q2 (fun k u v => v = ((2 * k + 2 : Nat) : Int) ∧ u = sm (fun j => ahd n g s (2 * j + 2)) k) (KK n) 0 ⟨rfl, rfl⟩ (by omega) (by omega) (fun k hk u v hI nx hn => ?_) (fun u v hI nx => ?_)
  · obtain ⟨rfl, hu⟩ := hI
    obtain ⟨-, w2, w3⟩ := WT_X4 h3 h5 tg (spl_k h3 h5 hk)
    have ss := sm_s (fun j => ahd n g s (2 * j + 2)) k
    refine w_spl h3 h5 hk (fun r hr => ?_)
    refine w_eqF (by omega) ?_
    refine w_b1s (WT_X9 h3 h5 tg (spl_k h3 h5 hk)) ?_
    refine w_j ?_
    refine w_j ?_
    have one : (WT n g s < WT n g (2 * k + 2) ∨ (WT n g (2 * k + 2) = WT n g s ∧ 2 * k + 2 < s)) → wp (lv (u + 1) (fun x53 => nx x53 (((2 * k + 2 : Nat) : Int) + 2))) (fun r => r = sm (fun j => ahd n g s (2 * j + 2)) (KK n)) := by
      intro c
      refine w_lz ?_
      refine hn _ _ ⟨by omega, ?_⟩
      rw [ss, hu, show ahd n g s (2 * k + 2) = 1 from if_pos c]
    have zero : ¬ (WT n g s < WT n g (2 * k + 2) ∨ (WT n g (2 * k + 2) = WT n g s ∧ 2 * k + 2 < s)) → wp (lv (u + 0) (fun x53 => nx x53 (((2 * k + 2 : Nat) : Int) + 2))) (fun r => r = sm (fun j => ahd n g s (2 * j + 2)) (KK n)) := by
      intro c
      refine w_lz ?_
      refine hn _ _ ⟨by omega, ?_⟩
      rw [ss, hu, show ahd n g s (2 * k + 2) = 0 from if_neg c]
    refine w_lt (by omega) (fun c => one (Or.inl c)) (fun c => ?_)
    refine w_b1s (WT_X9 h3 h5 tg (spl_k h3 h5 hk)) ?_
    refine w_j ?_
    refine w_eq (by omega) (fun c2 => ?_) (fun c2 => zero (by omega))
    refine w_lt (by omega) (fun c3 => one (by omega)) (fun c3 => zero (by omega))
  · obtain ⟨rfl, hu⟩ := hI
    refine w_spn h3 h5 (fun r hr => ?_)
    refine w_eqT hr ?_
    exact w_s hu
theorem split_X9 {n i : Nat} {w : Int} {g : Nat → Int} (h3 : 3 ≤ n) (h5 : n ≤ 5) (tg : Tb g) (hi : i < 2147483648) (hw : w = 0 ∨ w = 1) : wp (f_X9_split i w n g) (fun r => (r = -5 ∧ ∀ k, k < KK n → ¬ (0 < WT n g (2 * k + 2) ∧ AH n g (2 * k + 2) = i)) ∨ ∃ k, k < KK n ∧ 0 < WT n g (2 * k + 2) ∧ AH n g (2 * k + 2) = i ∧ r = if w = 0 then ((2 * k + 2 : Nat) : Int) else WT n g (2 * k + 2)) := by
  unfold f_X9_split
  have t := KK_2 h3 h5
  refine w_j ?_
  refine w_ltF (by omega) ?_
  refine w_b1s (in_X9 ⟨by omega, by omega⟩ ⟨by omega, by omega⟩ ⟨by omega, by omega⟩) ?_
  refine w_B (fun z => absurd (by omega) z) (fun _ => ?_)
  refine w_q1 (fun k v => v = ((2 * k + 2 : Nat) : Int) ∧ ∀ j, j < k → ¬ (0 < WT n g (2 * j + 2) ∧ AH n g (2 * j + 2) = i)) (KK n) 0 ⟨rfl, fa_0⟩ (by omega) (by omega) (fun k hk v hI nx hn => ?_) (fun v hI nx => ?_)
  · obtain ⟨rfl, hu⟩ := hI
    obtain ⟨-, w2, w3⟩ := WT_X4 h3 h5 tg (spl_k h3 h5 hk)
    refine w_spl h3 h5 hk (fun r hr => ?_)
    refine w_eqF (by omega) ?_
    refine w_b1s (WT_X9 h3 h5 tg (spl_k h3 h5 hk)) ?_
    refine w_j ?_
    refine w_lt (by omega) (fun c => ?_) (fun c => hn _ ⟨by omega, fa_s hu (fun q => by omega)⟩)
    refine w_b1 (ahead_X9 h3 h5 tg (spl_k h3 h5 hk)) (fun a ha => ?_)
    have ai := AH_in (g := g) (s := 2 * k + 2) h3 h5
    refine w_eq (by omega) (fun c2 => ?_) (fun c2 => hn _ ⟨by omega, fa_s hu (fun q => by omega)⟩)
    refine w_j ?_
    rcases hw with rfl | rfl
    · refine w_eqT rfl ?_
      exact w_s (Or.inr ⟨k, hk, c, by omega, by rw [if_pos rfl]⟩)
    · refine w_eqF (by omega) ?_
      refine w_b1s (WT_X9 h3 h5 tg (spl_k h3 h5 hk)) ?_
      exact w_s (Or.inr ⟨k, hk, c, by omega, by rw [if_neg (by decide)]⟩)
  · obtain ⟨rfl, hu⟩ := hI
    refine w_spn h3 h5 (fun r hr => ?_)
    refine w_eqT hr ?_
    exact w_s (Or.inl ⟨rfl, hu⟩)
theorem sm_z {f : Nat → Int} : ∀ n : Nat, (∀ i, i < n → f i = 0) → sm f n = 0
  | 0, _ => rfl
  | n + 1, h => by rw [sm_s, sm_z n (fun i hi => h i (by omega)), h n (by omega)]; rfl
theorem sm_pos {f : Nat → Int} {k : Nat} : ∀ n : Nat, (∀ i, i < n → 0 ≤ f i) → k < n → 0 < f k → 0 < sm f n
  | 0, _, hk, _ => absurd hk (Nat.not_lt_zero _)
  | n + 1, h, hk, p => by
    rw [sm_s]
    by_cases e : k = n
    · subst e
      have := sm_0 k (fun i hi => h i (by omega))
      omega
    · have := sm_pos n (fun i hi => h i (by omega)) (by omega) p
      have := h n (by omega)
      omega
theorem sm_1 {f : Nat → Int} {i : Nat} : ∀ n : Nat, i ≤ n → (∀ j, j < i → f j = 1) → (∀ j, i ≤ j → j < n → f j = 0) → sm f n = i
  | 0, h, _, _ => by
    have : i = 0 := by omega
    subst this
    rfl
  | n + 1, h, a, b => by
    rw [sm_s]
    by_cases e : i = n + 1
    · subst e
      have := sm_1 (f := f) (i := n) n (Nat.le_refl _) (fun j hj => a j (by omega)) (fun j x y => by omega)
      rw [this, a n (by omega)]
      omega
    · rw [sm_1 n (by omega) a (fun j x y => b j x (by omega)), b n (by omega) (by omega)]
      omega
theorem SpP_ag {n k h : Nat} {g far b w : Nat → Int} (h3 : 3 ≤ n) (h5 : n ≤ 5) (tg : Tb g) (tf : Tb far) (ag : Ag n g far) (hk : k ≤ KK n) (H : SpP n g k h b w) : SpP n far k h b w := by
  have t := KK_2 h3 h5
  obtain ⟨H1, H2, H3, H4⟩ := H
  refine ⟨H1, fun i hi => ?_, H3, fun f => ?_⟩
  · obtain ⟨s, s1, s2, s3, s4, s5, s6⟩ := H2 i hi
    have e := WT_ag h3 h5 tg tf ag (s := s) ⟨s2, by omega, by omega⟩
    exact ⟨s, s1, s2, s3, s4, by rw [← e]; exact s5, by rw [← e]; exact s6⟩
  · rw [H4 f]
    refine sm_c k (fun j hj => ?_)
    show (if 0 < WT n g (2 * j + 2) then f (2 * j + 2) else 0) = (if 0 < WT n far (2 * j + 2) then f (2 * j + 2) else 0)
    rw [WT_ag h3 h5 tg tf ag (spl_k h3 h5 (show j < KK n by omega))]
/-- the place in the list is how many are ahead -/
theorem SpP_rank {n h : Nat} {g b w : Nat → Int} (h3 : 3 ≤ n) (h5 : n ≤ 5) (H : SpP n g (KK n) h b w) {i : Nat} (hi : i < h) : AH n g (b i).toNat = i := by
  obtain ⟨H1, H2, H3, H4⟩ := H
  have e : AH n g (b i).toNat = sm (fun j => ahd n g (b i).toNat (b j).toNat) h := by
    rw [H4 (fun t => ahd n g (b i).toNat t)]
    refine sm_c _ (fun j hj => ?_)
    show _ = if 0 < WT n g (2 * j + 2) then ahd n g (b i).toNat (2 * j + 2) else 0
    by_cases c : 0 < WT n g (2 * j + 2)
    · rw [if_pos c]
    · rw [if_neg c]
      obtain ⟨s, s1, s2, s3, s4, s5, s6⟩ := H2 i hi
      rw [show (b i).toNat = s by omega]
      exact if_neg (by omega)
  rw [e]
  obtain ⟨s, s1, s2, s3, s4, s5, s6⟩ := H2 i hi
  refine sm_1 h (by omega) (fun j hj => ?_) (fun j a c => ?_)
  · obtain ⟨t, t1, t2, t3, t4, t5, t6⟩ := H2 j (by omega)
    have := H3 j i hj hi
    show ahd n g (b i).toNat (b j).toNat = 1
    rw [show (b i).toNat = s by omega, show (b j).toNat = t by omega]
    exact if_pos (by omega)
  · obtain ⟨t, t1, t2, t3, t4, t5, t6⟩ := H2 j c
    show ahd n g (b i).toNat (b j).toNat = 0
    rw [show (b i).toNat = s by omega, show (b j).toNat = t by omega]
    refine if_neg ?_
    by_cases e : i = j
    · subst e
      omega
    · have := H3 i j (by omega) c
      omega
theorem SpP_all {n h : Nat} {g b w : Nat → Int} (H : SpP n g (KK n) h b w) {k : Nat} (hk : k < KK n) (c : 0 < WT n g (2 * k + 2)) : ∃ i, i < h ∧ b i = ((2 * k + 2 : Nat) : Int) := by
  obtain ⟨H1, H2, H3, H4⟩ := H
  refine Classical.byContradiction (fun no => ?_)
  have z : sm (fun i => (fun t => if t = 2 * k + 2 then (1 : Int) else 0) (b i).toNat) h = 0 := sm_z h (fun i hi => by
    obtain ⟨s, s1, s2, s3, s4, s5, s6⟩ := H2 i hi
    refine if_neg (fun e => no ⟨i, hi, by omega⟩))
  rw [H4 (fun t => if t = 2 * k + 2 then (1 : Int) else 0)] at z
  have p := sm_pos (f := fun j => if 0 < WT n g (2 * j + 2) then (if 2 * j + 2 = 2 * k + 2 then (1 : Int) else 0) else 0) (KK n) (fun i _ => by
    show 0 ≤ (if 0 < WT n g (2 * i + 2) then (if 2 * i + 2 = 2 * k + 2 then (1 : Int) else 0) else 0)
    split
    · split <;> omega
    · omega) hk (by
    show 0 < (if 0 < WT n g (2 * k + 2) then (if 2 * k + 2 = 2 * k + 2 then (1 : Int) else 0) else 0)
    rw [if_pos c, if_pos rfl]
    omega)
  omega
