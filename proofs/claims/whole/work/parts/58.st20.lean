/-! PURE PART: split, odds, after -/
theorem SpOk_of {m : Nat} {fol held n : Int} {g b w : Nat → Int} (h1 : fol = 1) (hn : n = m) (m3 : 3 ≤ m) (m5 : m ≤ 5) (tg : Tb g) (L : SpL m held g b w) : SpOk fol held n g b w := ⟨Or.inr h1, fun _ => ⟨m, hn, m3, m5, tg, L⟩⟩
theorem st_20 {x : Nat → Int} {X : Nat → Nat → Int} {kx : Nat → Int64} {it : Nat → Nat → Int64} {F : Nat → Int} {B : Nat → Nat → Int} {cl bt : Nat → Int64} (h : Rel x X kx it F B cl bt) (p1 : Int) (g1 : rg p1) (p2 : Int) (g2 : rg p2) : ∃ (r : Int) (o0 : Int) (o1 : Int) (o2 : Int) (o3 : Nat → Int) (o4 : Nat → Int) (o5 : Nat → Int), f_X8_split p1 p2 (x 1) (X 0) (x 16) (x 17) (x 18) (X 13) (X 14) (X 15) = some (r, o0, o1, o2, o3, o4, o5) ∧ f_X9_split p1 p2 (F 0) (B 1) = some r ∧ Rel (up (up (up x 16 o0) 17 o1) 18 o2) (up (up (up X 13 o3) 14 o4) 15 o5) kx it F B cl bt := by
  obtain ⟨⟨⟨e0, h3, h5, tg, tf, ag⟩, hNu, hMp, hSe, hEv, hBo⟩, hC, hI, hSp, hHu, hT, hTa⟩ := h
  obtain ⟨n, hn⟩ := toN (show 0 ≤ x 1 by omega)
  have ag' : Ag n (X 0) (B 1) := hn ▸ ag
  obtain ⟨g11, g12⟩ := id g1
  obtain ⟨g21, g22⟩ := id g2
  have n3 : 3 ≤ n := by omega
  have n5 : n ≤ 5 := by omega
  by_cases c : 0 ≤ p1 ∧ 0 ≤ p2 ∧ p2 ≤ 1
  · obtain ⟨c1, c2, c3⟩ := c
    obtain ⟨i, rfl⟩ := toN c1
    have k9 := split_X9 (i := i) (w := p2) n3 n5 tf (by omega) (by omega)
    have t := KK_2 n3 n5
    have k8 : wp (f_X8_split i p2 n (X 0) (x 16) (x 17) (x 18) (X 13) (X 14) (X 15)) (fun o => SpOk o.2.1 o.2.2.1 o.2.2.2.1 o.2.2.2.2.1 o.2.2.2.2.2.1 o.2.2.2.2.2.2 ∧ ∃ h : Nat, ∃ b w : Nat → Int, SpP n (B 1) (KK n) h b w ∧ ((h ≤ i ∧ o.1 = -5) ∨ (i < h ∧ o.1 = if p2 = 0 then b i else w i))) := by
      unfold f_X8_split
      refine w_j ?_
      refine w_ltF (by omega) ?_
      refine w_ltF (by omega) ?_
      refine w_ltF (by omega) ?_
      refine w_b6 (follow_X3 hSp n3 n5 tg) (fun a1 a2 a3 a4 a5 a6 ha => ?_)
      obtain ⟨b1, b2, b3, b4, b5⟩ := ha
      have so : SpOk a1 a2 a3 a4 a5 a6 := SpOk_of b1 b2 n3 n5 b3 b5
      obtain ⟨hh, rfl, P⟩ := b5
      have P' := SpP_ag n3 n5 b3 tf (Ag_tr b4 ag') (Nat.le_refl _) P
      have hk : hh ≤ KK n := P.1
      refine w_lt (by omega) (fun c => ?_) (fun c => ?_)
      · refine w_j ?_
        have e : i < hh := by omega
        by_cases d : p2 = 0
        · refine w_eqT d ?_
          refine w_gi (by omega) ?_
          rw [ix_nat (show i < 2147483648 by omega)]
          exact w_s ⟨so, hh, a5, a6, P', Or.inr ⟨e, by rw [if_pos d]⟩⟩
        · refine w_eqF (by omega) ?_
          refine w_gi (by omega) ?_
          rw [ix_nat (show i < 2147483648 by omega)]
          exact w_s ⟨so, hh, a5, a6, P', Or.inr ⟨e, by rw [if_neg d]⟩⟩
      · exact w_s ⟨so, hh, a5, a6, P', Or.inl ⟨by omega, rfl⟩⟩
    rw [← hn] at k8
    rw [← e0.trans hn] at k9
    refine wp_two k8 k9 (fun a r' e1 e2 P Q => ?_)
    obtain ⟨r, o0, o1, o2, o3, o4, o5⟩ := a
    obtain ⟨so, hh, b, w, P1, P2⟩ := P
    have er : r = r' := by
      have P2' : (hh ≤ i ∧ r = -5) ∨ (i < hh ∧ r = if p2 = 0 then b i else w i) := P2
      rcases P2' with ⟨a1, a2⟩ | ⟨a1, a2⟩ <;> rcases Q with ⟨b1, b2⟩ | ⟨k, b1, b2, b3, b4⟩
      · rw [a2, b1]
      · obtain ⟨j, j1, j2⟩ := SpP_all P1 b1 b2
        have := SpP_rank n3 n5 P1 j1
        rw [show (b j).toNat = 2 * k + 2 by omega] at this
        omega
      · obtain ⟨s, s1, s2, s3, s4, s5, s6⟩ := P1.2.1 i a1
        have rk := SpP_rank n3 n5 P1 a1
        rw [show (b i).toNat = 2 * (s / 2 - 1) + 2 by omega] at rk
        have := b2 (s / 2 - 1) (by omega)
        rw [show 2 * (s / 2 - 1) + 2 = s by omega] at this rk
        exact absurd ⟨s6, rk⟩ this
      · obtain ⟨j, j1, j2⟩ := SpP_all P1 b1 b2
        have rk := SpP_rank n3 n5 P1 j1
        rw [show (b j).toNat = 2 * k + 2 by omega] at rk
        have ji : j = i := by omega
        subst ji
        obtain ⟨s, s1, s2, s3, s4, s5, s6⟩ := P1.2.1 j a1
        rw [a2, b4, j2, s5, show s = 2 * k + 2 by omega]
    subst er
    exact ⟨r, o0, o1, o2, o3, o4, o5, e1, e2, ⟨⟨e0, h3, h5, tg, tf, ag⟩, hNu, hMp, hSe, hEv, hBo⟩, hC, hI, so, hHu, hT, hTa⟩
  · have k8 : wp (f_X8_split p1 p2 (x 1) (X 0) (x 16) (x 17) (x 18) (X 13) (X 14) (X 15)) (fun s => s = (-1, x 16, x 17, x 18, X 13, X 14, X 15)) := by
      unfold f_X8_split
      refine w_j ?_
      refine w_lt (by omega) (fun c2 => w_s rfl) (fun c2 => ?_)
      refine w_lt (by omega) (fun c3 => w_s rfl) (fun c3 => ?_)
      refine w_lt (by omega) (fun c4 => w_s rfl) (fun c4 => ?_)
      omega
    have k9 : wp (f_X9_split p1 p2 (F 0) (B 1)) (fun s => s = -1) := by
      unfold f_X9_split
      refine w_j ?_
      refine w_lt (by omega) (fun c2 => w_s rfl) (fun c2 => ?_)
      refine w_b1s (in_X9 g2 ⟨by omega, by omega⟩ ⟨by omega, by omega⟩) ?_
      refine w_B (fun _ => w_s rfl) (fun z2 => ?_)
      omega
    exact ⟨-1, x 16, x 17, x 18, X 13, X 14, X 15, wp_e k8, wp_e k9, ⟨⟨e0, h3, h5, tg, tf, ag⟩, hNu, hMp, hSe, hEv, hBo⟩, hC, hI, hSp, hHu, hT, hTa⟩
/-- how many splits part two points, what they weigh together -/
theorem between_X3 {n h p q : Nat} {g b w : Nat → Int} (h3 : 3 ≤ n) (h5 : n ≤ 5) (H : SpP n g (KK n) h b w) (hp : p < n) (hq : q < n) : wp (f_X3_manyBetween p q h b) (fun r => r = sm (fun j => if 0 < WT n g (2 * j + 2) then pI (2 * j + 2) p q else 0) (KK n) ∧ 0 ≤ r ∧ r ≤ h) ∧ wp (f_X3_weightBetween p q h b w) (fun r => r = sm (fun j => if 0 < WT n g (2 * j + 2) then pI (2 * j + 2) p q * WT n g (2 * j + 2) else 0) (KK n)) := by
  obtain ⟨H1, H2, H3, H4⟩ := H
  have t := KK_2 h3 h5
  have pt : ∀ k, k < h → f_X3_parts k p q b = some (pI (b k).toNat p q) := by
    intro k hk
    obtain ⟨s, s1, s2, s3, s4, s5, s6⟩ := H2 k hk
    refine wp_e ?_
    unfold f_X3_parts
    refine w_gi (by omega) ?_
    refine w_gi (by omega) ?_
    refine w_j ?_
    rw [ix_nat (show k < 2147483648 by omega), s1, Int.toNat_natCast, shr_bit (by omega) (by omega), shr_bit (by omega) (by omega)]
    have b1 := bq_c s p
    have b2 := bq_c s q
    refine w_eq (by omega) (fun c => ?_) (fun c => ?_)
    · exact w_g0 (w_s (if_pos (by omega)).symm)
    · exact w_g1 (w_s (if_neg (by omega)).symm)
  have pb : ∀ s, 0 ≤ pI s p q ∧ pI s p q ≤ 1 := fun s => by
    unfold pI
    split <;> omega
  constructor
  · rw [← H4 (fun t => pI t p q)]
    unfold f_X3_manyBetween
    refine w_q2 (fun k u v => v = (k : Int) ∧ u = sm (fun i => pI (b i).toNat p q) k ∧ 0 ≤ u ∧ u ≤ k) h 0 ⟨rfl, rfl, by omega, by omega⟩ (by omega) (by omega) (fun k hk u v hI nx hn => ?_) (fun u v hI nx => ?_)
    · obtain ⟨rfl, u1, u2, u3⟩ := hI
      have ss := sm_s (fun i => pI (b i).toNat p q) k
      have b0 := pb (b k).toNat
      refine w_ltT (by omega) ?_
      refine w_b1s (pt k hk) ?_
      refine w_j ?_
      refine w_eq (by omega) (fun c => ?_) (fun c => ?_)
      · refine w_lz ?_
        exact hn _ _ ⟨by omega, by omega, by omega, by omega⟩
      · refine w_lz ?_
        exact hn _ _ ⟨by omega, by omega, by omega, by omega⟩
    · obtain ⟨rfl, u1, u2, u3⟩ := hI
      refine w_ltF (by omega) ?_
      exact w_s ⟨u1, u2, u3⟩
  · rw [← H4 (fun t => pI t p q * WT n g t)]
    unfold f_X3_weightBetween
    refine w_q2 (fun k u v => v = (k : Int) ∧ u = sm (fun i => pI (b i).toNat p q * WT n g (b i).toNat) k) h 0 ⟨rfl, rfl⟩ (by omega) (by omega) (fun k hk u v hI nx hn => ?_) (fun u v hI nx => ?_)
    · obtain ⟨rfl, u1⟩ := hI
      have ss := sm_s (fun i => pI (b i).toNat p q * WT n g (b i).toNat) k
      have b0 := pb (b k).toNat
      obtain ⟨s, s1, s2, s3, s4, s5, s6⟩ := H2 k hk
      have es : (b k).toNat = s := by omega
      refine w_ltT (by omega) ?_
      refine w_b1s (pt k hk) ?_
      refine w_j ?_
      refine w_eq (by omega) (fun c => ?_) (fun c => ?_)
      · refine w_lz ?_
        refine hn _ _ ⟨by omega, ?_⟩
        rw [ss, u1, c]
        omega
      · refine w_gi (by omega) ?_
        refine w_lz ?_
        refine hn _ _ ⟨by omega, ?_⟩
        rw [ss, u1, show pI (b k).toNat p q = 1 by omega, ix_nat (show k < 2147483648 by omega), es, s5]
        omega
    · obtain ⟨rfl, u1⟩ := hI
      refine w_ltF (by omega) ?_
      exact w_s u1
theorem SpP_h {n h : Nat} {g b w : Nat → Int} (H : SpP n g (KK n) h b w) : (h : Int) = sm (fun j => if 0 < WT n g (2 * j + 2) then 1 else 0) (KK n) := by
  rw [← H.2.2.2 (fun _ => 1)]
  exact (sm_1 h (Nat.le_refl _) (fun j _ => rfl) (fun j a c => by omega)).symm
theorem odds_X9 {n p q : Nat} {w : Int} {g : Nat → Int} {o c : Nat} (h3 : 3 ≤ n) (h5 : n ≤ 5) (tg : Tb g) (hp : p < n) (hq : q < n) (hne : p ≠ q) (hw : w = 0 ∨ w = 1) (ho : (o : Int) = sm (fun j => if 0 < WT n g (2 * j + 2) then pI (2 * j + 2) p q else 0) (KK n)) (hc : (c : Int) = sm (fun j => if 0 < WT n g (2 * j + 2) then 1 else 0) (KK n)) (o16 : o < 2147483648) (c16 : c ≤ 16) : wp (f_X9_odds p q w n g) (fun r => r = if c = 0 then -9223372036854775808 else lowT o c w) := by
  unfold f_X9_odds
  have t := KK_2 h3 h5
  refine w_b1s (areTwo_X9 ⟨by omega, by omega⟩ ⟨by omega, by omega⟩ (by omega) (by omega)) ?_
  refine w_j ?_
  refine w_B (fun z => absurd (by omega) z) (fun _ => ?_)
  refine w_b1s (in_X9 ⟨by omega, by omega⟩ ⟨by omega, by omega⟩ ⟨by omega, by omega⟩) ?_
  refine w_B (fun z => absurd (by omega) z) (fun _ => ?_)
  refine w_b1 (counting_X9 h3 h5 tg) (fun r hr => ?_)
  rw [← hc] at hr
  by_cases c0 : c = 0
  · refine w_eqT (by omega) ?_
    exact w_s (by rw [if_pos c0])
  · refine w_eqF (by omega) ?_
    refine w_q2 (fun k u v => v = ((2 * k + 2 : Nat) : Int) ∧ u = sm (fun j => if 0 < WT n g (2 * j + 2) then pI (2 * j + 2) p q else 0) k) (KK n) 0 ⟨rfl, rfl⟩ (by omega) (by omega) (fun k hk u v hI nx hn => ?_) (fun u v hI nx => ?_)
    · obtain ⟨rfl, hu⟩ := hI
      obtain ⟨-, w2, w3⟩ := WT_X4 h3 h5 tg (spl_k h3 h5 hk)
      refine w_spl h3 h5 hk (fun r hr => ?_)
      refine w_eqF (by omega) ?_
      refine w_b1s (WT_X9 h3 h5 tg (spl_k h3 h5 hk)) ?_
      refine w_j ?_
      refine w_j ?_
      have ss := sm_s (fun j => if 0 < WT n g (2 * j + 2) then pI (2 * j + 2) p q else 0) k
      have b1 := bq_c (2 * k + 2) p
      have b2 := bq_c (2 * k + 2) q
      refine w_lt (by omega) (fun c => ?_) (fun c => ?_)
      · rw [shr_bit (by omega) (by omega), shr_bit (by omega) (by omega)]
        refine w_eq (by omega) (fun c2 => ?_) (fun c2 => ?_)
        · refine w_lz ?_
          refine hn _ _ ⟨by omega, ?_⟩
          rw [ss, if_pos c, show pI (2 * k + 2) p q = 0 from if_pos (by omega), hu]
        · refine w_lz ?_
          refine hn _ _ ⟨by omega, ?_⟩
          rw [ss, if_pos c, show pI (2 * k + 2) p q = 1 from if_neg (by omega), hu]
      · refine w_lz ?_
        refine hn _ _ ⟨by omega, ?_⟩
        rw [ss, if_neg (by omega), hu]
    · obtain ⟨rfl, hu⟩ := hI
      refine w_spn h3 h5 (fun r hr => ?_)
      refine w_eqT hr ?_
      refine w_b1 (counting_X9 h3 h5 tg) (fun r2 hr2 => ?_)
      rw [← hc] at hr2
      subst hr2
      have eo : u = (o : Int) := by rw [hu, ho]
      rw [eo]
      refine w_b1 (part_X9 o16 c16 (by omega) hw) (fun z hz => ?_)
      exact w_s (by rw [if_neg c0]; exact hz)
theorem st_23 {x : Nat → Int} {X : Nat → Nat → Int} {kx : Nat → Int64} {it : Nat → Nat → Int64} {F : Nat → Int} {B : Nat → Nat → Int} {cl bt : Nat → Int64} (h : Rel x X kx it F B cl bt) (p1 : Int) (g1 : rg p1) (p2 : Int) (g2 : rg p2) (p3 : Int) (g3 : rg p3) : ∃ (r : Int64) (o0 : Int) (o1 : Int) (o2 : Int) (o3 : Nat → Int) (o4 : Nat → Int) (o5 : Nat → Int), f_X8_odds p1 p2 p3 (x 1) (X 0) (x 16) (x 17) (x 18) (X 13) (X 14) (X 15) = some (r, o0, o1, o2, o3, o4, o5) ∧ f_X9_odds p1 p2 p3 (F 0) (B 1) = some r ∧ Rel (up (up (up x 16 o0) 17 o1) 18 o2) (up (up (up X 13 o3) 14 o4) 15 o5) kx it F B cl bt := by
  obtain ⟨⟨⟨e0, h3, h5, tg, tf, ag⟩, hNu, hMp, hSe, hEv, hBo⟩, hC, hI, hSp, hHu, hT, hTa⟩ := h
  obtain ⟨n, hn⟩ := toN (show 0 ≤ x 1 by omega)
  have ag' : Ag n (X 0) (B 1) := hn ▸ ag
  have n3 : 3 ≤ n := by omega
  have n5 : n ≤ 5 := by omega
  have t := KK_2 n3 n5
  have fin : ∀ r o0 o1 o2 o3 o4 o5, SpOk o0 o1 o2 o3 o4 o5 → wp (f_X8_odds p1 p2 p3 (x 1) (X 0) (x 16) (x 17) (x 18) (X 13) (X 14) (X 15)) (fun s => s = (r, o0, o1, o2, o3, o4, o5)) → wp (f_X9_odds p1 p2 p3 (F 0) (B 1)) (fun s => s = r) → ∃ (r : Int64) (o0 : Int) (o1 : Int) (o2 : Int) (o3 : Nat → Int) (o4 : Nat → Int) (o5 : Nat → Int), f_X8_odds p1 p2 p3 (x 1) (X 0) (x 16) (x 17) (x 18) (X 13) (X 14) (X 15) = some (r, o0, o1, o2, o3, o4, o5) ∧ f_X9_odds p1 p2 p3 (F 0) (B 1) = some r ∧ Rel (up (up (up x 16 o0) 17 o1) 18 o2) (up (up (up X 13 o3) 14 o4) 15 o5) kx it F B cl bt := fun r o0 o1 o2 o3 o4 o5 so k8 k9 => ⟨r, o0, o1, o2, o3, o4, o5, wp_e k8, wp_e k9, ⟨⟨e0, h3, h5, tg, tf, ag⟩, hNu, hMp, hSe, hEv, hBo⟩, hC, hI, so, hHu, hT, hTa⟩
  by_cases c : 0 ≤ p1 ∧ p1 < n ∧ 0 ≤ p2 ∧ p2 < n ∧ p1 ≠ p2
  · obtain ⟨c1, c2, c3, c4, c5⟩ := c
    obtain ⟨p, rfl⟩ := toN c1
    obtain ⟨q, rfl⟩ := toN c3
    obtain ⟨⟨a1, a2, a3, a4, a5, a6⟩, ea, b1, b2, b3, b4, b5⟩ := follow_X3 hSp n3 n5 tg
    have b1' : a1 = 1 := b1
    have b2' : a3 = n := b2
    have so : SpOk a1 a2 a3 a4 a5 a6 := SpOk_of b1' b2' n3 n5 b3 b5
    obtain ⟨hh, e2, P⟩ := b5
    have e2' : a2 = hh := e2
    have P' : SpP n (B 1) (KK n) hh a5 a6 := SpP_ag n3 n5 b3 tf (Ag_tr b4 ag') (Nat.le_refl _) P
    have hk : hh ≤ KK n := P.1
    obtain ⟨⟨m, em, m1, m2, m3⟩, -⟩ := between_X3 n3 n5 P' (show p < n by omega) (show q < n by omega)
    obtain ⟨o, rfl⟩ := toN m2
    by_cases cw : p3 = 0 ∨ p3 = 1
    · have k9 := odds_X9 (o := o) (c := hh) n3 n5 tf (show p < n by omega) (show q < n by omega) (by omega) cw m1 (SpP_h P') (by omega) (by omega)
      refine fin (if hh = 0 then -9223372036854775808 else lowT o hh p3) a1 a2 a3 a4 a5 a6 so ?_ (by rw [e0, hn]; exact k9)
      rw [hn]
      unfold f_X8_odds
      refine w_b1s (areTwo_X4 ⟨by omega, by omega⟩ ⟨by omega, by omega⟩ (by omega) (by omega)) ?_
      refine w_B (fun z => absurd (by omega) z) (fun _ => ?_)
      rw [ea]
      show wp (bd1 _ _) _
      rw [e2']
      refine w_b1s em ?_
      by_cases c0 : hh = 0
      · rw [if_pos c0]
        refine w_b1 (low_X8n (by omega) (by omega) g3 (Or.inl c0)) (fun r hr => ?_)
        rw [hr]
        exact w_s rfl
      · rw [if_neg c0]
        refine w_b1 (low_X8 (by omega) (by omega) (by omega) cw) (fun r hr => ?_)
        rw [hr]
        exact w_s rfl
    · refine fin (-9223372036854775808) a1 a2 a3 a4 a5 a6 so ?_ ?_
      · rw [hn]
        unfold f_X8_odds
        refine w_b1s (areTwo_X4 ⟨by omega, by omega⟩ ⟨by omega, by omega⟩ (by omega) (by omega)) ?_
        refine w_B (fun z => absurd (by omega) z) (fun _ => ?_)
        rw [ea]
        show wp (bd1 _ _) _
        rw [e2']
        refine w_b1s em ?_
        refine w_b1 (low_X8n (by omega) (by omega) g3 (Or.inr cw)) (fun r hr => ?_)
        rw [hr]
        exact w_s rfl
      · rw [e0, hn]
        unfold f_X9_odds
        refine w_b1s (areTwo_X9 ⟨by omega, by omega⟩ ⟨by omega, by omega⟩ (by omega) (by omega)) ?_
        refine w_j ?_
        refine w_B (fun z => absurd (by omega) z) (fun _ => ?_)
        refine w_b1s (in_X9 g3 ⟨by omega, by omega⟩ ⟨by omega, by omega⟩) ?_
        refine w_B (fun _ => w_s rfl) (fun z => absurd (by omega) cw)
  · refine fin (-9223372036854775808) (x 16) (x 17) (x 18) (X 13) (X 14) (X 15) hSp ?_ ?_
    · unfold f_X8_odds
      refine w_b1s (areTwo_X4 g1 g2 h3 h5) ?_
      refine w_B (fun _ => w_s rfl) (fun z => absurd (by omega) c)
    · unfold f_X9_odds
      rw [e0]
      refine w_b1s (areTwo_X9 g1 g2 h3 h5) ?_
      refine w_j ?_
      refine w_B (fun _ => w_s rfl) (fun z => absurd (by omega) c)
