/-! PURE PART: a corner comes into the class's list -/
theorem ins_X0 {p h K : Nat} {ks : Nat → Int64} {c : Nat → Nat} (hp : p ≤ h) (hh : h < 37) (hc : ∀ i, i < h → ks i = L6 (c i) ∧ c i < 2 ^ 35) (lo : ∀ i, i < p → c i < K) (hi : ∀ i, p ≤ i → i < h → K < c i) (hK : K < 2 ^ 35) : wp (lq2 (fun (n105 : Int → (Nat → Int64) → Option (Int × (Nat → Int64))) (v4_105 : Int) (this_keys_105 : Nat → Int64) => if ltI (p : Int) v4_105 = true then (grd (iin (v4_105 - 1) 37) (lv ((this_keys_105 (ix (v4_105 - 1)))) (fun x126 => grd (iin v4_105 37) (n105 (v4_105 + (-1)) (up this_keys_105 (ix v4_105) x126))))) else (grd (iin (p : Int) 37) (lv (((h : Int) + 1)) (fun x147 => some (x147, (up this_keys_105 (ix (p : Int)) (L6 K))))))) 300 (h : Int) ks) (fun o => ∃ (h' : Nat) (c' : Nat → Nat), o.1 = h' ∧ INS h c h' c' K ∧ ∀ i, i < h' → o.2 i = L6 (c' i) ∧ c' i < 2 ^ 35) := by
  refine w_q2 (fun t v k' => v = ((h - t : Nat) : Int) ∧ (∀ i, i < h - t → k' i = ks i) ∧ ∀ i, h - t ≤ i → i < h → k' (i + 1) = ks i) (h - p) 0 ⟨rfl, fun i _ => rfl, fun i a b => absurd a (by omega)⟩ (by omega) (by omega) (fun t ht v k' hI nx hn => ?_) (fun v k' hI nx => ?_)
  · obtain ⟨rfl, t1, t2⟩ := hI
    have e1 : ((h - t : Nat) : Int) - 1 = ((h - t - 1 : Nat) : Int) := by omega
    refine w_ltT (by omega) ?_
    rw [e1]
    refine w_gi (by omega) ?_
    refine w_l (fun y ey => ?_)
    refine w_gi (by omega) ?_
    rw [ix_nat (show h - t < 2147483648 by omega)]
    rw [ix_nat (show h - t - 1 < 2147483648 by omega), t1 _ (by omega)] at ey
    refine hn _ _ ⟨by omega, fun i hi2 => ?_, fun i a b => ?_⟩
    · rw [up_ne _ _ (by omega)]
      exact t1 i (by omega)
    · by_cases e : i = h - t - 1
      · rw [show i + 1 = h - t by omega, up_eq, ey, e]
      · rw [up_ne _ _ (by omega)]
        exact t2 i (by omega) b
  · obtain ⟨rfl, t1, t2⟩ := hI
    refine w_ltF (by omega) ?_
    refine w_gi (by omega) ?_
    refine w_lz ?_
    rw [ix_nat (show p < 2147483648 by omega)]
    refine w_s ⟨h + 1, fun i => if i < p then c i else if i = p then K else c (i - 1), rfl, Or.inr ⟨rfl, p, hp, fun i hi2 => ⟨if_pos hi2, lo i hi2⟩, ?_, fun i a b => ⟨?_, hi i a b⟩⟩, fun i hi2 => ?_⟩
    · show (if p < p then _ else if p = p then K else _) = K
      rw [if_neg (by omega), if_pos rfl]
    · show (if i + 1 < p then _ else if i + 1 = p then K else c (i + 1 - 1)) = c i
      rw [if_neg (by omega), if_neg (by omega), show i + 1 - 1 = i by omega]
    · show up k' p (L6 K) i = L6 (if i < p then c i else if i = p then K else c (i - 1)) ∧ (if i < p then c i else if i = p then K else c (i - 1)) < 2 ^ 35
      by_cases a : i < p
      · rw [if_pos a, up_ne _ _ (by omega), t1 i (by omega)]
        exact hc i (by omega)
      · by_cases b : i = p
        · rw [if_neg a, if_pos b, b, up_eq]
          exact ⟨rfl, hK⟩
        · rw [if_neg a, if_neg b, up_ne _ _ b]
          obtain ⟨q, rfl⟩ : ∃ q, i = q + 1 := ⟨i - 1, by omega⟩
          rw [t2 q (by omega) (by omega), show q + 1 - 1 = q by omega]
          exact hc q (by omega)
theorem add_X0 {n h : Nat} {nu : Nat → Int} {ks : Nat → Int64} {c : Nat → Nat} (h5 : n ≤ 5) (hf : F80 n nu) (hh : h < 37) (hc : ∀ i, i < h → ks i = L6 (c i) ∧ c i < 2 ^ 35) (so : ∀ i j, i < j → j < h → c i < c j) : wp (f_X0_add h n nu ks) (fun o => ∃ (h' : Nat) (c' : Nat → Nat), o.1 = h' ∧ INS h c h' c' (kcode n nu) ∧ ∀ i, i < h' → o.2 i = L6 (c' i) ∧ c' i < 2 ^ 35) := by
  unfold f_X0_add
  refine w_lz ?_
  have kl := kcode_lt hf
  refine w_q2 (fun k a v => v = (k : Int) ∧ a = L6 (ky (fz n nu) k)) 5 0 ⟨rfl, rfl⟩ (by omega) (by omega) (fun k hk a v hI nx hn => ?_) (fun a v hI nx => ?_)
  · obtain ⟨rfl, rfl⟩ := hI
    have l1 := ky_lt (fz_lt hf) k
    have l2 : 128 ^ k ≤ 128 ^ 4 := Nat.pow_le_pow_right (by omega) (by omega)
    have l3 := fz_lt hf k
    refine w_ltT (by omega) ?_
    refine w_j ?_
    have go : wp (lv ((lshlI (L6 (ky (fz n nu) k)) 7) ||| (i2lI ((fz n nu k : Nat) : Int))) (fun x36 => nx x36 ((k : Int) + 1))) (fun o => ∃ (h' : Nat) (c' : Nat → Nat), o.1 = h' ∧ INS h c h' c' (kcode n nu) ∧ ∀ i, i < h' → o.2 i = L6 (c' i) ∧ c' i < 2 ^ 35) := by
      refine w_lz ?_
      refine hn _ _ ⟨by omega, ?_⟩
      rw [key_s (by omega) (by omega)]
      rfl
    by_cases kn : k < n
    · refine w_ltT (by omega) ?_
      refine w_gi (by omega) ?_
      rw [ix_nat (show k < 2147483648 by omega)]
      have e : nu k = ((fz n nu k : Nat) : Int) := by
        have := hf k kn
        unfold fz
        rw [if_pos kn]
        omega
      rw [e]
      exact go
    · refine w_ltF (by omega) ?_
      have e : fz n nu k = 0 := if_neg kn
      rw [e] at go
      exact go
  · obtain ⟨rfl, rfl⟩ := hI
    refine w_ltF (by omega) ?_
    show wp (lq1 _ 300 0) _
    have eK : ky (fz n nu) 5 = kcode n nu := rfl
    rw [eK]
    refine w_q1 (fun p v => v = (p : Int) ∧ ∀ i, i < p → c i < kcode n nu) h 0 ⟨rfl, fa_0⟩ (by omega) (by omega) (fun p hp v hI ny hy => ?_) (fun v hI ny => ?_)
    · obtain ⟨rfl, t1⟩ := hI
      have cp := hc p hp
      refine w_j ?_
      refine w_ltT (by omega) ?_
      refine w_gi (by omega) ?_
      rw [ix_nat (show p < 2147483648 by omega), cp.1]
      refine w_cmplt (by omega) (fun lt => hy _ ⟨by omega, fa_s t1 lt⟩) (fun ge => ?_)
      refine w_j ?_
      refine w_j ?_
      refine w_ltT (by omega) ?_
      refine w_j ?_
      refine w_ltT (by omega) ?_
      refine w_gi (by omega) ?_
      refine w_cmpeq (by omega) (fun e => ?_) (fun ne => ?_)
      · exact w_s ⟨h, c, rfl, Or.inl ⟨rfl, fun i _ => rfl, p, hp, e⟩, hc⟩
      · have := ins_X0 (p := p) (by omega) hh hc t1 (fun i a b => by
          by_cases e : i = p
          · rw [e]
            omega
          · have := so p i (by omega) b
            omega) kl
        rw [ix_nat (show p < 2147483648 by omega)] at this
        exact this
    · obtain ⟨rfl, t1⟩ := hI
      refine w_j ?_
      refine w_ltF (by omega) ?_
      refine w_j ?_
      refine w_j ?_
      refine w_ltT (by omega) ?_
      refine w_j ?_
      refine w_ltF (by omega) ?_
      exact ins_X0 (p := h) (by omega) hh hc t1 (fun i a b => absurd a (by omega)) kl
