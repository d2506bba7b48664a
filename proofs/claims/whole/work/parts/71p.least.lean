/-! PURE PART: least -/
def HO4 (o : Int × (Nat → Int) × Int × Int × Int × Int × (Nat → Int) × (Nat → Int) × (Nat → Int64) × (Nat → Int)) : Prop := HuOk o.2.2.1 o.2.2.2.1 o.2.2.2.2.1 o.2.2.2.2.2.1 o.2.2.2.2.2.2.1 o.2.2.2.2.2.2.2.2.1 o.2.2.2.2.2.2.2.2.2
theorem least_both {n : Nat} {p1 p2 fol there held s c0 : Int} {g nh tw d far cor nm t0 nu nb : Nat → Int} {kx : Nat → Int64} (g1 : rg p1) (g2 : rg p2) (h3 : 3 ≤ n) (h5 : n ≤ 5) (H : HuOk fol there held s g kx tw) (td : Tb d) (tf : Tb far) (ag : Ag n d far) (hnu : ∀ k, k < 5 → nu k = nb k ∧ 0 ≤ nu k ∧ nu k ≤ 160) : wp (f_X8_least p1 p2 n d nu fol there held s g nh kx tw) (fun o => HO4 o ∧ wp (f_X9_least p1 p2 n c0 far nb cor nm t0) (fun u => u.1 = o.1 ∧ ∀ k, k < 5 → o.2.1 k = u.2.2.1 k ∧ 0 ≤ o.2.1 k ∧ o.2.1 k ≤ 160)) := by
  obtain ⟨g11, g12⟩ := id g1
  have nbr : ∀ k, k < 5 → 0 ≤ nb k ∧ nb k ≤ 160 := fun k hk => by have := hnu k hk; omega
  unfold f_X8_least f_X9_least
  refine w_eq (by omega) (fun c1 => ?_) (fun c1 => ?_)
  · refine w_b2 (make_X2 h3 h5 td tf ag hnu) (fun r nu8 hr => ?_)
    obtain ⟨e1, e2⟩ := hr
    have e1' : r = sm (fun k => ne1 (mls n far nb k k) (ndf far (mls n far nb k) k n)) n := e1
    have e2' : ∀ j, j < 5 → nu8 j = mls n far nb n j := e2
    refine w_s ⟨H, ?_⟩
    refine w_b1s (in_X9 g1 ⟨by omega, by omega⟩ ⟨by omega, by omega⟩) ?_
    refine w_B (fun z => absurd (by omega) z) (fun _ => ?_)
    refine w_j ?_
    refine w_eqF (by omega) ?_
    refine w_q3 (fun k u v q => v = (k : Int) ∧ u = sm (fun k => ne1 (mls n far nb k k) (ndf far (mls n far nb k) k n)) k ∧ q = mls n far nb k) n 0 ⟨rfl, rfl, rfl⟩ (by omega) (by omega) (fun k hk u v q hI nx hn => ?_) (fun u v q hI nx => ?_)
    · obtain ⟨rfl, t1, rfl⟩ := hI
      have inn := mls_in h5 tf nbr k (by omega)
      refine w_ltT (by omega) ?_
      refine w_j ?_
      refine w_eqF (by omega) ?_
      refine w_q2 (fun m a v => v = (m : Int) ∧ a = ndf far (mls n far nb k) k m) n 0 ⟨rfl, rfl⟩ (by omega) (by omega) (fun m hm a v hI ny hy => ?_) (fun a v hI ny => ?_)
      · obtain ⟨rfl, rfl⟩ := hI
        obtain ⟨b1, b2, b3⟩ := ndf_is (n := n) (g := far) (nu := mls n far nb k) (x := k) m
        have im := inn m (by omega)
        have up' : ndf far (mls n far nb k) k m ≤ 200 := by
          rcases b3 with q | ⟨y, y1, y2, y3⟩
          · omega
          · have := inn y (by omega)
            have := tf k y (by omega) (by omega)
            omega
        refine w_j ?_
        refine w_ltT (by omega) ?_
        refine w_eqT c1 ?_
        refine w_j ?_
        refine w_eq (by omega) (fun q => ?_) (fun q => ?_)
        · refine hy _ _ ⟨by omega, ?_⟩
          show _ = if m = k then ndf far (mls n far nb k) k m else _
          rw [if_pos (by omega)]
        · refine w_d tf (by omega) (fun z ez l u2 => ?_)
          refine w_gi (by omega) ?_
          rw [ix_nat (show m < 2147483648 by omega)]
          refine hy _ _ ⟨by omega, ?_⟩
          show _ = if m = k then _ else mxx (ndf far (mls n far nb k) k m) (2 * far (5 * k + m) - mls n far nb k m)
          rw [if_neg (by omega), ez]
          have mw := maxI_w (a := ndf far (mls n far nb k) k m) (b := 2 * far (5 * k + m) - mls n far nb k m) (by omega)
          have mv := mxx_w (ndf far (mls n far nb k) k m) (2 * far (5 * k + m) - mls n far nb k m)
          omega
      · obtain ⟨rfl, rfl⟩ := hI
        obtain ⟨b1, b2, b3⟩ := ndf_is (n := n) (g := far) (nu := mls n far nb k) (x := k) n
        have im := inn k (by omega)
        have up' : ndf far (mls n far nb k) k n ≤ 200 := by
          rcases b3 with q | ⟨y, y1, y2, y3⟩
          · omega
          · have := inn y (by omega)
            have := tf k y (by omega) (by omega)
            omega
        refine w_j ?_
        refine w_ltF (by omega) ?_
        refine w_gi (by omega) ?_
        refine w_j ?_
        rw [ix_nat (show k < 2147483648 by omega)]
        refine w_eq (by omega) (fun q => ?_) (fun q => ?_)
        · refine w_lz ?_
          refine w_gi (by omega) ?_
          refine hn _ _ _ ⟨by omega, by rw [sm_s, ← t1, ne1_t (by omega)], rfl⟩
        · refine w_lz ?_
          refine w_gi (by omega) ?_
          refine hn _ _ _ ⟨by omega, by rw [sm_s, ← t1, ne1_f (by omega)], rfl⟩
    · obtain ⟨rfl, t1, rfl⟩ := hI
      refine w_ltF (by omega) ?_
      have inn := mls_in h5 tf nbr n (Nat.le_refl _)
      refine w_s ⟨t1.trans e1'.symm, fun k hk => ⟨e2' k hk, ?_⟩⟩
      show 0 ≤ nu8 k ∧ nu8 k ≤ 160
      rw [e2' k hk]
      exact inn k hk
  refine w_eq (by omega) (fun c2 => ?_) (fun c2 => ?_)
  · refine w_b9 (refusal_X8 g2 H h3 h5 td ag) (fun r a1 a2 a3 a4 a5 a6 a7 a8 ha => ?_)
    obtain ⟨q1, q2, q3⟩ := ha
    have q1' : HuOk a1 a2 a3 a4 a5 a7 a8 := q1
    refine w_j ?_
    have hd : ∀ {K : Int × Int × (Nat → Int) × (Nat → Int) × (Nat → Int) × (Nat → Int) → Prop} {t u : Option (Int × Int × (Nat → Int) × (Nat → Int) × (Nat → Int) × (Nat → Int))}, wp t K → wp (bd1 (f_X9_in p1 0 1) (fun r3 => if eqI r3 0 = true then u else t)) K := fun ht => w_b1s (in_X9 g1 ⟨by omega, by omega⟩ ⟨by omega, by omega⟩) (w_B (fun z => absurd (by omega) z) (fun _ => ht))
    rcases q3 with ⟨z1, z2⟩ | ⟨z2, h, c, z3, z4⟩
    · have z1' : r = -3 := z1
      subst z1'
      refine w_eqF (by omega) ?_
      refine w_s ⟨q1', hd ?_⟩
      refine w_j ?_
      refine w_eqT c2 ?_
      refine w_b1 (barred_X9 h5 tf) (fun b hb => ?_)
      have fb := FB_tab h5 hb
      refine w_ltF (by rcases fb with q | q; exact absurd q.2 z2; omega) ?_
      exact w_s ⟨rfl, hnu⟩
    · have lay : ∀ {K : Int × Int × (Nat → Int) × (Nat → Int) × (Nat → Int) × (Nat → Int) → Prop} {kk : Int → (Nat → Int) → (Nat → Int) → (Nat → Int) → Option (Int × Int × (Nat → Int) × (Nat → Int) × (Nat → Int) × (Nat → Int))} {u : Option (Int × Int × (Nat → Int) × (Nat → Int) × (Nat → Int) × (Nat → Int))}, (∀ a b c' d, HR n h c a b → wp (kk a b c' d) K) → wp (bd1 (f_X9_barred n far) (fun r17 => if ltI r17 0 = true then (bd4 (f_X9_layCorners n c0 far cor nm t0) kk) else u)) K := by
        intro K kk u hk
        refine w_b1 (barred_X9 h5 tf) (fun b hb => ?_)
        have fb := FB_tab h5 hb
        refine w_ltT (by rcases fb with q | q; omega; exact absurd z2 q.2.2) ?_
        refine w_b4 (lay_X9 h3 h5 tf z2) (fun x1 x2 x3 x4 hx => ?_)
        exact hk _ _ _ _ (HUR_HR h5 z3.2.2.1 hx)
      rcases z4 with ⟨y1, y2⟩ | ⟨y1, y2⟩
      · have y1' : r = -1 := y1
        subst y1'
        refine w_eqF (by omega) ?_
        refine w_s ⟨q1', hd ?_⟩
        refine w_j ?_
        refine w_eqT c2 ?_
        refine lay (fun a b c' d hr => ?_)
        have hr1 := hr.1
        have h37 := z3.2.1
        refine w_b1s (in_X9 g2 ⟨by omega, by omega⟩ ⟨by omega, by omega⟩) ?_
        exact w_B (fun _ => w_s ⟨rfl, hnu⟩) (fun z => absurd (by omega) y2)
      · have y1' : r = 0 := y1
        subst y1'
        obtain ⟨i, rfl⟩ := toN y2.1
        have hi : i < h := by omega
        have h37 := z3.2.1
        have Z : HC n far h c a3 a7 a8 := z3
        have C := z3.2.2.2.2.2 i hi
        refine w_eqT rfl ?_
        refine w_b2 (take_X2 h3 h5 Z hi q2 hnu) (fun r nu8 hr => ?_)
        obtain ⟨e1, e2⟩ := hr
        have e1' : r = sm (fun k => ne1 (nb k) (cf (c i) k)) n := e1
        have e2' : ∀ j, j < 5 → nu8 j = if j < n then cf (c i) j else nb j := e2
        refine w_s ⟨q1', hd ?_⟩
        refine w_j ?_
        refine w_eqT c2 ?_
        refine lay (fun a b c' d hr => ?_)
        have hr1 := hr.1
        refine w_b1s (in_X9 g2 ⟨by omega, by omega⟩ ⟨by omega, by omega⟩) ?_
        refine w_B (fun z => absurd (by omega) z) (fun _ => ?_)
        refine w_q3 (fun k u v q => v = (k : Int) ∧ u = sm (fun k => ne1 (nb k) (cf (c i) k)) k ∧ ∀ j, j < 5 → q j = if j < k then cf (c i) j else nb j) n 0 ⟨rfl, rfl, fun j hj => by rw [if_neg (by omega)]⟩ (by omega) (by omega) (fun k hk u v q hI nx hn => ?_) (fun u v q hI nx => ?_)
        · obtain ⟨rfl, t1, t2⟩ := hI
          have ek := t2 k (by omega)
          rw [if_neg (by omega)] at ek
          have rk := nbr k (by omega)
          have ck := cf_r (c i) n k hk
          refine w_ltT (by omega) ?_
          refine w_j ?_
          refine w_eqT c2 ?_
          rw [show (5 * (i : Int) + (k : Int)) = ((5 * i + k : Nat) : Int) by omega]
          refine w_gi (by omega) ?_
          rw [ix_nat (show 5 * i + k < 2147483648 by omega), hr.2 i hi k hk]
          refine w_q2 (fun m a v => m = 0 ∧ a = cf (c i) k ∧ v = 0) 1 0 ⟨rfl, rfl, rfl⟩ (by omega) (by omega) (fun m hm a v hI ny hy => ?_) (fun a v hI ny => absurd hI.1 (by omega))
          obtain ⟨rfl, rfl, rfl⟩ := hI
          have fin : wp (grd (iin (k : Int) 5) (jn (fun (s1_159 : Int) => lv ((u + s1_159)) (fun x160 => grd (iin (k : Int) 5) (nx x160 ((k : Int) + 1) (up q (ix (k : Int)) (cf (c i) k))))) (fun (k159 : Int → Option (Int × Int × (Nat → Int) × (Nat → Int) × (Nat → Int) × (Nat → Int))) => if eqI (cf (c i) k) (q (ix (k : Int))) = true then (k159 0) else (k159 1)))) (fun u => u.1 = r ∧ ∀ k, k < 5 → nu8 k = u.2.2.1 k ∧ 0 ≤ nu8 k ∧ nu8 k ≤ 160) := by
            refine w_gi (by omega) ?_
            refine w_j ?_
            rw [ix_nat (show k < 2147483648 by omega), ek]
            have st : ∀ j, j < 5 → up q k (cf (c i) k) j = if j < k + 1 then cf (c i) j else nb j := by
              intro j hj
              by_cases e : j = k
              · rw [e, up_eq, if_pos (by omega)]
              · rw [up_ne _ _ e, t2 j hj]
                by_cases w : j < k
                · rw [if_pos w, if_pos (by omega)]
                · rw [if_neg w, if_neg (by omega)]
            refine w_eq (by omega) (fun e => ?_) (fun e => ?_)
            · refine w_lz ?_
              refine w_gi (by omega) ?_
              exact hn _ _ _ ⟨by omega, by rw [sm_s, ← t1, ne1_t e.symm], st⟩
            · refine w_lz ?_
              refine w_gi (by omega) ?_
              exact hn _ _ _ ⟨by omega, by rw [sm_s, ← t1, ne1_f (fun z => e z.symm)], st⟩
          refine w_j ?_
          refine w_ltT (by omega) ?_
          refine w_eqF (by omega) ?_
          exact fin
        · obtain ⟨rfl, t1, t2⟩ := hI
          refine w_ltF (by omega) ?_
          refine w_s ⟨t1.trans e1'.symm, fun k hk => ⟨(e2' k hk).trans (t2 k hk).symm, ?_⟩⟩
          show 0 ≤ nu8 k ∧ nu8 k ≤ 160
          rw [e2' k hk]
          have := nbr k hk
          by_cases w : k < n
          · rw [if_pos w]
            have := C.1 k w
            omega
          · rw [if_neg w]
            exact this
  · refine w_s ⟨H, ?_⟩
    refine w_b1s (in_X9 g1 ⟨by omega, by omega⟩ ⟨by omega, by omega⟩) ?_
    exact w_B (fun _ => w_s ⟨rfl, hnu⟩) (fun z => absurd z (by omega))
theorem st_4 {x : Nat → Int} {X : Nat → Nat → Int} {kx : Nat → Int64} {it : Nat → Nat → Int64} {F : Nat → Int} {B : Nat → Nat → Int} {cl bt : Nat → Int64} (h : Rel x X kx it F B cl bt) (p1 : Int) (g1 : rg p1) (p2 : Int) (g2 : rg p2) : ∃ (r : Int) (o0 : Nat → Int) (o1 : Int) (o2 : Int) (o3 : Int) (o4 : Int) (o5 : Nat → Int) (o6 : Nat → Int) (o7 : Nat → Int64) (o8 : Nat → Int) (o0' : Int) (o1' : Nat → Int) (o2' : Nat → Int) (o3' : Nat → Int) (o4' : Nat → Int), f_X8_least p1 p2 (x 1) (X 0) (X 1) (x 19) (x 20) (x 21) (x 22) (X 16) (X 17) kx (X 18) = some (r, o0, o1, o2, o3, o4, o5, o6, o7, o8) ∧ f_X9_least p1 p2 (F 0) (F 23) (B 1) (B 2) (B 24) (B 25) (B 26) = some (r, o0', o1', o2', o3', o4') ∧ Rel (up (up (up (up x 19 o1) 20 o2) 21 o3) 22 o4) (up (up (up (up X 1 o0) 16 o5) 17 o6) 18 o8) o7 it (up F 23 o0') (up (up (up (up B 2 o1') 24 o2') 25 o3') 26 o4') cl bt := by
  obtain ⟨⟨⟨e0, h3, h5, tg, tf, ag⟩, hNu, hMp, hSe, hEv, hBo⟩, hC, hI, hSp, hHu, hT, hTa⟩ := h
  obtain ⟨n, hn⟩ := toN (show 0 ≤ x 1 by omega)
  have ag' : Ag n (X 0) (B 1) := hn ▸ ag
  have n3 : 3 ≤ n := by omega
  have n5 : n ≤ 5 := by omega
  obtain ⟨⟨r, o0, o1, o2, o3, o4, o5, o6, o7, o8⟩, e1, so, ⟨r', o0', o1', o2', o3', o4'⟩, e2, er, en⟩ := least_both (nh := X 17) (c0 := F 23) (cor := B 24) (nm := B 25) (t0 := B 26) g1 g2 n3 n5 hHu tg tf ag' hNu
  have er' : r' = r := er
  subst er'
  exact ⟨r', o0, o1, o2, o3, o4, o5, o6, o7, o8, o0', o1', o2', o3', o4', by rw [hn]; exact e1, by rw [e0, hn]; exact e2, ⟨⟨e0, h3, h5, tg, tf, ag⟩, en, hMp, hSe, hEv, hBo⟩, hC, hI, hSp, so, hT, hTa⟩
