/-! PURE PART: tight, eye; statements over the hull -/
theorem twosAt_X0 {h i : Nat} {held : Int} {tw : Nat → Int} (eh : held = h) (hi : i < h) (hh : h ≤ 37) : f_X0_twosAt i held tw = some (tw i) := by
  refine wp_e ?_
  unfold f_X0_twosAt
  rw [eh]
  refine w_b1s (has_X0 ⟨by omega, by omega⟩ hh) ?_
  refine w_j ?_
  refine w_B (fun z => absurd (by omega) z) (fun _ => ?_)
  refine w_gi (by omega) ?_
  rw [ix_nat (show i < 2147483648 by omega)]
  exact w_s rfl
theorem tight_both {n : Nat} {p1 p2 p3 fol there held s c0 : Int} {g nu tw d far cor nm t0 : Nat → Int} {kx : Nat → Int64} (g1 : rg p1) (g2 : rg p2) (g3 : rg p3) (h3 : 3 ≤ n) (h5 : n ≤ 5) (H : HuOk fol there held s g kx tw) (td : Tb d) (tf : Tb far) (ag : Ag n d far) : wp (f_X8_tight p1 p2 p3 n d fol there held s g nu kx tw) (fun o => HO o ∧ wp (f_X9_tight p1 p2 p3 n c0 far cor nm t0) (fun u => u.1 = o.1)) := by
  unfold f_X8_tight f_X9_tight
  refine w_b9 (refusal_X8 g1 H h3 h5 td ag) (fun r a1 a2 a3 a4 a5 a6 a7 a8 ha => ?_)
  obtain ⟨q1, q2, q3⟩ := ha
  rcases q3 with ⟨z1, z2⟩ | ⟨z2, h, c, z3, z4⟩
  · have z1' : r = -3 := z1
    subst z1'
    refine w_eqF (by omega) ?_
    refine w_s ⟨q1, ?_⟩
    exact w_ref h3 h5 tf (fun _ a b c d => w_eqT rfl (w_s rfl)) (fun q => absurd q z2)
  · rcases z4 with ⟨y1, y2⟩ | ⟨y1, y2⟩
    · have y1' : r = -1 := y1
      subst y1'
      refine w_eqF (by omega) ?_
      refine w_s ⟨q1, ?_⟩
      refine w_refn h3 h5 tf z2 z3.2.2.1 z3.2.1 g1 y2 (fun a b c' d => ?_)
      refine w_j ?_
      exact w_eqT rfl (w_s rfl)
    · have y1' : r = 0 := y1
      subst y1'
      obtain ⟨i, rfl⟩ := toN y2.1
      have eh : a3 = h := z3.1
      have hi : i < h := by omega
      have h37 := z3.2.1
      obtain ⟨R, eR, hR, hM⟩ := z3.2.2.2.2.1 i hi
      have eR' : a8 i = (R : Int) := eR
      have C := z3.2.2.2.2.2 i hi
      refine w_eqT rfl ?_
      refine w_b1s (has_X4 g2 (by omega) (by omega)) ?_
      refine w_j ?_
      refine w_B (fun c2 => w_s ⟨q1, w_refc h3 h5 tf z2 z3.2.2.1 h37 g1 y2 (fun a b c' d hr => ?_)⟩) (fun c2 => ?_)
      · refine w_j ?_
        refine w_eqF (by omega) ?_
        refine w_b1s (isPoint_X9 g2 (by omega) (by omega)) ?_
        exact w_B (fun _ => w_s rfl) (fun z => absurd z c2)
      refine w_b1s (has_X4 g3 (by omega) (by omega)) ?_
      refine w_B (fun c3 => w_s ⟨q1, w_refc h3 h5 tf z2 z3.2.2.1 h37 g1 y2 (fun a b c' d hr => ?_)⟩) (fun c3 => ?_)
      · refine w_j ?_
        refine w_eqF (by omega) ?_
        refine w_b1s (isPoint_X9 g2 (by omega) (by omega)) ?_
        refine w_B (fun z => absurd c2 z) (fun _ => ?_)
        refine w_b1s (isPoint_X9 g3 (by omega) (by omega)) ?_
        exact w_B (fun _ => w_s rfl) (fun z => absurd z c3)
      obtain ⟨x, rfl⟩ := toN c2.1
      obtain ⟨y, rfl⟩ := toN c3.1
      refine w_b1s (twosAt_X0 eh hi h37) ?_
      rw [eR']
      refine w_b1 (joins_X7 hR (show x < 5 by omega) (show y < 5 by omega)) (fun b hb => ?_)
      refine w_b1s (oneIf_X8 (bI_or hb)) ?_
      refine w_s ⟨q1, w_refc h3 h5 tf z2 z3.2.2.1 h37 g1 y2 (fun a b' c' d hr => ?_)⟩
      refine w_j ?_
      refine w_eqF (by omega) ?_
      refine w_b1s (isPoint_X9 g2 (by omega) (by omega)) ?_
      refine w_B (fun z => absurd c2 z) (fun _ => ?_)
      refine w_b1s (isPoint_X9 g3 (by omega) (by omega)) ?_
      refine w_B (fun z => absurd c3 z) (fun _ => ?_)
      rw [show (5 * (i : Int)) = ((5 * i : Nat) : Int) by omega]
      refine w_b1 (isTight_X9 (f := cf (c i)) h5 tf (cf_r _ n) (fun x hx => hr.2 i hi x hx) (by omega) (show x < n by omega) (show y < n by omega)) (fun b2 hb2 => ?_)
      refine w_j ?_
      refine b01_id (bI_or hb2) (k := fun s0_57 => some (s0_57, a, b', c', d)) ?_
      refine w_s ?_
      show b2 = b
      exact bI_u hb2 (bI_c hb ((hM x y (by omega) (by omega)).trans ⟨fun q => q.2.2, fun q => ⟨by omega, by omega, q⟩⟩))
theorem eye_both {n : Nat} {p1 fol there held s c0 : Int} {g nu tw d far cor nm t0 : Nat → Int} {kx : Nat → Int64} (g1 : rg p1) (h3 : 3 ≤ n) (h5 : n ≤ 5) (H : HuOk fol there held s g kx tw) (td : Tb d) (tf : Tb far) (ag : Ag n d far) : wp (f_X8_eye p1 n d fol there held s g nu kx tw) (fun o => HO o ∧ wp (f_X9_eye p1 n c0 far cor nm t0) (fun u => u.1 = o.1)) := by
  unfold f_X8_eye f_X9_eye
  refine w_b8 (follow_X0 H h3 h5 td) (fun a1 a2 a3 a4 a5 a6 a7 a8 ha => ?_)
  obtain ⟨q1, q2, q3, q4, q5⟩ := ha
  have es : a4 = n := q2
  rcases HUL_HC h5 (Ag_tr q4 ag) q5 with ⟨z1, z2⟩ | ⟨z1, T, h, c, z3⟩
  · refine w_eqT z1 ?_
    refine w_s ⟨q1, ?_⟩
    exact w_ref h3 h5 tf (fun _ a b c d => w_eqT rfl (w_s rfl)) (fun q => absurd q z2)
  · have z1' : a2 = 1 := z1
    subst z1'
    have eh : a3 = h := z3.1
    have h37 := z3.2.1
    refine w_eqF (by omega) ?_
    refine w_b1s (has_X4 g1 (by omega) (by omega)) ?_
    refine w_j ?_
    refine w_B (fun c1 => w_s ⟨q1, ?_⟩) (fun c1 => ?_)
    · refine w_ref h3 h5 tf (fun q => absurd T q) (fun _ a b c' d hu => ?_)
      refine w_eqF (by omega) ?_
      refine w_b1s (isPoint_X9 g1 (by omega) (by omega)) ?_
      exact w_B (fun _ => w_s rfl) (fun z => absurd z c1)
    obtain ⟨x, rfl⟩ := toN c1.1
    have hx : x < n := by omega
    have E := eye_corn h5 tf T hx
    obtain ⟨i, hi, ei⟩ := (z3.2.2.1.2 (kcode n (eyf far x))).mp ⟨_, E, rfl⟩
    have fe : ∀ y, y < n → cf (c i) y = eyf far x y := fun y hy => by
      rw [ei]
      exact dec_f E.1 h5 hy
    have exx : eyf far x x = 0 := by
      have := (tf x x (by omega) (by omega)).2.2.2
      unfold eyf
      omega
    have un : ∀ j, j < h → cf (c j) x = 0 → j = i := by
      intro j hj e0
      have C := z3.2.2.2.2.2 j hj
      have ez := zero_eye h5 tf T hx C e0
      have ec : c j = c i := by
        obtain ⟨f, Cf, ef⟩ := (z3.2.2.1.2 (c j)).mpr ⟨j, hj, rfl⟩
        rw [ei, ef]
        refine kcode_c (fun y hy => ?_)
        rw [← ez y hy, ef]
        exact (dec_f Cf.1 h5 hy).symm
      by_cases l : j < i
      · have := z3.2.2.1.1 j i l hi
        omega
      · by_cases l2 : i < j
        · have := z3.2.2.1.1 i j l2 hj
          omega
        · omega
    have k8 : wp (f_X0_eyeOf x a3 a4 a7) (fun r => r = (i : Int)) := by
      unfold f_X0_eyeOf
      rw [eh, es]
      refine w_q1 (fun k v => v = (k : Int) ∧ k ≤ i) h 0 ⟨rfl, Nat.zero_le _⟩ (by omega) (by omega) (fun k hk v hI nx hn => ?_) (fun v hI nx => ?_)
      · obtain ⟨rfl, t1⟩ := hI
        refine w_ltT (by omega) ?_
        have kk := z3.2.2.2.1 k hk
        refine w_b1s (number_X0 h5 h3 hk h37 hx kk.1 kk.2) ?_
        have l : dec (c k) x < 128 := Nat.mod_lt _ (by omega)
        refine w_eq (by omega) (fun e => ?_) (fun e => ?_)
        · have := un k hk e
          exact w_s (by rw [this])
        · refine hn _ ⟨by omega, ?_⟩
          by_cases ki : k = i
          · subst ki
            exact absurd ((fe x hx).trans exx) e
          · omega
      · obtain ⟨rfl, t1⟩ := hI
        omega
    refine w_b1 k8 (fun r hr => ?_)
    subst hr
    refine w_s ⟨q1, ?_⟩
    refine w_ref h3 h5 tf (fun q => absurd T q) (fun _ a b c' d hu => ?_)
    have hr := HUR_HR h5 z3.2.2.1 hu
    refine w_eqF (by omega) ?_
    refine w_b1s (isPoint_X9 g1 (by omega) (by omega)) ?_
    refine w_B (fun z => absurd c1 z) (fun _ => ?_)
    refine w_q2 (fun k v t => v = (k : Int) ∧ ∀ y, y < k → t y = eyf far x y) n 0 ⟨rfl, fa_0⟩ (by omega) (by omega) (fun k hk v t hI nx hn => ?_) (fun v t hI nx => ?_)
    · obtain ⟨rfl, t1⟩ := hI
      refine w_ltT (by omega) ?_
      refine w_d tf (by omega) (fun z ez l u => ?_)
      refine w_l (fun m em => ?_)
      refine w_gi (by omega) ?_
      rw [ix_nat (show k < 2147483648 by omega)]
      refine hn _ _ ⟨by omega, fun y hy => ?_⟩
      by_cases e : y = k
      · rw [e, up_eq, em, ez]
        rfl
      · rw [up_ne _ _ e]
        exact t1 y (by omega)
    · obtain ⟨rfl, t1⟩ := hI
      refine w_ltF (by omega) ?_
      have t80 : F80 n t := F80_c E.1 t1
      have ke : kcode n t = c i := by
        rw [ei]
        exact kcode_c t1
      refine w_q1 (fun k v => v = (k : Int) ∧ k ≤ i) h 0 ⟨rfl, Nat.zero_le _⟩ (by omega) (by omega) (fun k hk v hI ny hy => ?_) (fun v hI ny => ?_)
      · obtain ⟨rfl, t2⟩ := hI
        have C := z3.2.2.2.2.2 k hk
        refine w_b1 (compared_X9 h5 (by omega) C.1 t80 (fun x hx => hr.2 k hk x hx)) (fun r hr2 => ?_)
        have kk : kcode n (cf (c k)) = c k := by
          obtain ⟨f, Cf, ef⟩ := (z3.2.2.1.2 (c k)).mpr ⟨k, hk, rfl⟩
          rw [ef]
          exact kcode_c (fun y hy => dec_f Cf.1 h5 hy)
        rw [ke, kk] at hr2
        refine w_eq (by omega) (fun e => ?_) (fun e => ?_)
        · refine w_s ?_
          show (k : Int) = (i : Int)
          by_cases l : k < i
          · have := z3.2.2.1.1 k i l hi
            omega
          · omega
        · refine hy _ ⟨by omega, ?_⟩
          by_cases ki : k = i
          · subst ki
            omega
          · omega
      · obtain ⟨rfl, t2⟩ := hI
        omega
theorem st_13 {x : Nat → Int} {X : Nat → Nat → Int} {kx : Nat → Int64} {it : Nat → Nat → Int64} {F : Nat → Int} {B : Nat → Nat → Int} {cl bt : Nat → Int64} (h : Rel x X kx it F B cl bt) : ∃ (r : Int) (o0 : Int) (o1 : Int) (o2 : Int) (o3 : Int) (o4 : Nat → Int) (o5 : Nat → Int) (o6 : Nat → Int64) (o7 : Nat → Int) (o0' : Int) (o1' : Nat → Int) (o2' : Nat → Int) (o3' : Nat → Int), f_X8_corners (x 1) (X 0) (x 19) (x 20) (x 21) (x 22) (X 16) (X 17) kx (X 18) = some (r, o0, o1, o2, o3, o4, o5, o6, o7) ∧ f_X9_corners (F 0) (F 23) (B 1) (B 24) (B 25) (B 26) = some (r, o0', o1', o2', o3') ∧ Rel (up (up (up (up x 19 o0) 20 o1) 21 o2) 22 o3) (up (up (up X 16 o4) 17 o5) 18 o7) o6 it (up F 23 o0') (up (up (up B 24 o1') 25 o2') 26 o3') cl bt := by
  obtain ⟨⟨⟨e0, h3, h5, tg, tf, ag⟩, hNu, hMp, hSe, hEv, hBo⟩, hC, hI, hSp, hHu, hT, hTa⟩ := h
  obtain ⟨n, hn⟩ := toN (show 0 ≤ x 1 by omega)
  have ag' : Ag n (X 0) (B 1) := hn ▸ ag
  have n3 : 3 ≤ n := by omega
  have n5 : n ≤ 5 := by omega
  obtain ⟨⟨r, o0, o1, o2, o3, o4, o5, o6, o7⟩, e1, so, ⟨r', o0', o1', o2', o3'⟩, e2, er⟩ := corners_both (nu := X 17) (c0 := F 23) (cor := B 24) (nm := B 25) (t0 := B 26) n3 n5 hHu tg tf ag'
  have er' : r' = r := er
  subst er'
  exact ⟨r', o0, o1, o2, o3, o4, o5, o6, o7, o0', o1', o2', o3', by rw [hn]; exact e1, by rw [e0, hn]; exact e2, ⟨⟨e0, h3, h5, tg, tf, ag⟩, hNu, hMp, hSe, hEv, hBo⟩, hC, hI, hSp, so, hT, hTa⟩
theorem st_14 {x : Nat → Int} {X : Nat → Nat → Int} {kx : Nat → Int64} {it : Nat → Nat → Int64} {F : Nat → Int} {B : Nat → Nat → Int} {cl bt : Nat → Int64} (h : Rel x X kx it F B cl bt) (p1 : Int) (g1 : rg p1) (p2 : Int) (g2 : rg p2) : ∃ (r : Int) (o0 : Int) (o1 : Int) (o2 : Int) (o3 : Int) (o4 : Nat → Int) (o5 : Nat → Int) (o6 : Nat → Int64) (o7 : Nat → Int) (o0' : Int) (o1' : Nat → Int) (o2' : Nat → Int) (o3' : Nat → Int), f_X8_at p1 p2 (x 1) (X 0) (x 19) (x 20) (x 21) (x 22) (X 16) (X 17) kx (X 18) = some (r, o0, o1, o2, o3, o4, o5, o6, o7) ∧ f_X9_at p1 p2 (F 0) (F 23) (B 1) (B 24) (B 25) (B 26) = some (r, o0', o1', o2', o3') ∧ Rel (up (up (up (up x 19 o0) 20 o1) 21 o2) 22 o3) (up (up (up X 16 o4) 17 o5) 18 o7) o6 it (up F 23 o0') (up (up (up B 24 o1') 25 o2') 26 o3') cl bt := by
  obtain ⟨⟨⟨e0, h3, h5, tg, tf, ag⟩, hNu, hMp, hSe, hEv, hBo⟩, hC, hI, hSp, hHu, hT, hTa⟩ := h
  obtain ⟨n, hn⟩ := toN (show 0 ≤ x 1 by omega)
  have ag' : Ag n (X 0) (B 1) := hn ▸ ag
  have n3 : 3 ≤ n := by omega
  have n5 : n ≤ 5 := by omega
  obtain ⟨⟨r, o0, o1, o2, o3, o4, o5, o6, o7⟩, e1, so, ⟨r', o0', o1', o2', o3'⟩, e2, er⟩ := at_both (nu := X 17) (c0 := F 23) (cor := B 24) (nm := B 25) (t0 := B 26) g1 g2 n3 n5 hHu tg tf ag'
  have er' : r' = r := er
  subst er'
  exact ⟨r', o0, o1, o2, o3, o4, o5, o6, o7, o0', o1', o2', o3', by rw [hn]; exact e1, by rw [e0, hn]; exact e2, ⟨⟨e0, h3, h5, tg, tf, ag⟩, hNu, hMp, hSe, hEv, hBo⟩, hC, hI, hSp, so, hT, hTa⟩
theorem st_16 {x : Nat → Int} {X : Nat → Nat → Int} {kx : Nat → Int64} {it : Nat → Nat → Int64} {F : Nat → Int} {B : Nat → Nat → Int} {cl bt : Nat → Int64} (h : Rel x X kx it F B cl bt) (p1 : Int) (g1 : rg p1) (p2 : Int) (g2 : rg p2) (p3 : Int) (g3 : rg p3) : ∃ (r : Int) (o0 : Int) (o1 : Int) (o2 : Int) (o3 : Int) (o4 : Nat → Int) (o5 : Nat → Int) (o6 : Nat → Int64) (o7 : Nat → Int) (o0' : Int) (o1' : Nat → Int) (o2' : Nat → Int) (o3' : Nat → Int), f_X8_tight p1 p2 p3 (x 1) (X 0) (x 19) (x 20) (x 21) (x 22) (X 16) (X 17) kx (X 18) = some (r, o0, o1, o2, o3, o4, o5, o6, o7) ∧ f_X9_tight p1 p2 p3 (F 0) (F 23) (B 1) (B 24) (B 25) (B 26) = some (r, o0', o1', o2', o3') ∧ Rel (up (up (up (up x 19 o0) 20 o1) 21 o2) 22 o3) (up (up (up X 16 o4) 17 o5) 18 o7) o6 it (up F 23 o0') (up (up (up B 24 o1') 25 o2') 26 o3') cl bt := by
  obtain ⟨⟨⟨e0, h3, h5, tg, tf, ag⟩, hNu, hMp, hSe, hEv, hBo⟩, hC, hI, hSp, hHu, hT, hTa⟩ := h
  obtain ⟨n, hn⟩ := toN (show 0 ≤ x 1 by omega)
  have ag' : Ag n (X 0) (B 1) := hn ▸ ag
  have n3 : 3 ≤ n := by omega
  have n5 : n ≤ 5 := by omega
  obtain ⟨⟨r, o0, o1, o2, o3, o4, o5, o6, o7⟩, e1, so, ⟨r', o0', o1', o2', o3'⟩, e2, er⟩ := tight_both (nu := X 17) (c0 := F 23) (cor := B 24) (nm := B 25) (t0 := B 26) g1 g2 g3 n3 n5 hHu tg tf ag'
  have er' : r' = r := er
  subst er'
  exact ⟨r', o0, o1, o2, o3, o4, o5, o6, o7, o0', o1', o2', o3', by rw [hn]; exact e1, by rw [e0, hn]; exact e2, ⟨⟨e0, h3, h5, tg, tf, ag⟩, hNu, hMp, hSe, hEv, hBo⟩, hC, hI, hSp, so, hT, hTa⟩
theorem st_18 {x : Nat → Int} {X : Nat → Nat → Int} {kx : Nat → Int64} {it : Nat → Nat → Int64} {F : Nat → Int} {B : Nat → Nat → Int} {cl bt : Nat → Int64} (h : Rel x X kx it F B cl bt) (p1 : Int) (g1 : rg p1) : ∃ (r : Int) (o0 : Int) (o1 : Int) (o2 : Int) (o3 : Int) (o4 : Nat → Int) (o5 : Nat → Int) (o6 : Nat → Int64) (o7 : Nat → Int) (o0' : Int) (o1' : Nat → Int) (o2' : Nat → Int) (o3' : Nat → Int), f_X8_eye p1 (x 1) (X 0) (x 19) (x 20) (x 21) (x 22) (X 16) (X 17) kx (X 18) = some (r, o0, o1, o2, o3, o4, o5, o6, o7) ∧ f_X9_eye p1 (F 0) (F 23) (B 1) (B 24) (B 25) (B 26) = some (r, o0', o1', o2', o3') ∧ Rel (up (up (up (up x 19 o0) 20 o1) 21 o2) 22 o3) (up (up (up X 16 o4) 17 o5) 18 o7) o6 it (up F 23 o0') (up (up (up B 24 o1') 25 o2') 26 o3') cl bt := by
  obtain ⟨⟨⟨e0, h3, h5, tg, tf, ag⟩, hNu, hMp, hSe, hEv, hBo⟩, hC, hI, hSp, hHu, hT, hTa⟩ := h
  obtain ⟨n, hn⟩ := toN (show 0 ≤ x 1 by omega)
  have ag' : Ag n (X 0) (B 1) := hn ▸ ag
  have n3 : 3 ≤ n := by omega
  have n5 : n ≤ 5 := by omega
  obtain ⟨⟨r, o0, o1, o2, o3, o4, o5, o6, o7⟩, e1, so, ⟨r', o0', o1', o2', o3'⟩, e2, er⟩ := eye_both (nu := X 17) (c0 := F 23) (cor := B 24) (nm := B 25) (t0 := B 26) g1 n3 n5 hHu tg tf ag'
  have er' : r' = r := er
  subst er'
  exact ⟨r', o0, o1, o2, o3, o4, o5, o6, o7, o0', o1', o2', o3', by rw [hn]; exact e1, by rw [e0, hn]; exact e2, ⟨⟨e0, h3, h5, tg, tf, ag⟩, hNu, hMp, hSe, hEv, hBo⟩, hC, hI, hSp, so, hT, hTa⟩
