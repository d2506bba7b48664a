/-! PURE PART: shorten; what happens to a table -/
theorem Ag_copy {n : Nat} {g o : Nat → Int} (h5 : n ≤ 5) (e : ∀ k : Nat, k < 25 → o k = g k) : Ag n o g := fun i j hi hj => e _ (by omega)
theorem ne1_0 {a b : Int} (h : ne1 a b = 0) : a = b := by
  by_cases c : a = b
  · exact c
  · rw [ne1_f c] at h
    omega
theorem w_b1s {α γ : Type} {t : Option α} {a : α} {k : α → Option γ} {K : γ → Prop} (h : t = some a) (m : wp (k a) K) : wp (bd1 t k) K := by
  rw [h]
  exact m
theorem w_b2s {α β γ : Type} {t : Option (α × β)} {a : α} {b : β} {k : α → β → Option γ} {K : γ → Prop} (h : t = some (a, b)) (m : wp (k a b) K) : wp (bd2 t k) K := by
  rw [h]
  exact m
theorem shorten_X8 {n : Nat} {s : Int} {g d : Nat → Int} (h3 : 3 ≤ n) (h5 : n ≤ 5) (tg : Tb g) : wp (f_X8_shorten n g s d) (fun o => Tb o.2.1 ∧ Ag n o.2.1 (SHn g n) ∧ o.1 = S4 (fun i j => ne1 (o.2.1 (5 * i + j)) (g (5 * i + j))) n ∧ o.2.2.1 = n) := by
  unfold f_X8_shorten
  obtain ⟨o, e1, e2⟩ := become_X4 (s := s) (m := (n : Int)) (g := d) (d := g)
  refine w_b2s e1 ?_
  refine w_b1 (shorts_X4 h3 h5 tg) (fun c hc => ?_)
  refine w_b1 (otherwise_X4 h5 hc.1 (Tb_copy tg e2)) (fun r hr => ?_)
  refine w_s ⟨hc.1, hc.2, ?_, rfl⟩
  show r = _
  rw [hr.1]
  refine sm_c n (fun i hi => sm_c _ (fun t ht => ?_))
  show ne1 (c (5 * i + (i + 1 + t))) (o (5 * i + (i + 1 + t))) = ne1 (c (5 * i + (i + 1 + t))) (g (5 * i + (i + 1 + t)))
  rw [e2 (5 * i + (i + 1 + t)) (by omega)]
theorem ne1_sym {a b : Int} : ne1 a b = ne1 b a := by
  unfold ne1
  split <;> split <;> omega
theorem st_2 {x : Nat → Int} {X : Nat → Nat → Int} {kx : Nat → Int64} {it : Nat → Nat → Int64} {F : Nat → Int} {B : Nat → Nat → Int} {cl bt : Nat → Int64} (h : Rel x X kx it F B cl bt) : ∃ (r : Int) (o0 : Nat → Int) (o1 : Int) (o2 : Nat → Int) (o0' : Nat → Int) (o1' : Nat → Int), f_X8_shorten (x 1) (X 0) (x 15) (X 12) = some (r, o0, o1, o2) ∧ f_X9_shorten (F 0) (B 1) (B 20) = some (r, o0', o1') ∧ Rel (up x 15 o1) (up (up X 0 o0) 12 o2) kx it F (up (up B 1 o0') 20 o1') cl bt := by
  obtain ⟨⟨⟨e0, h3, h5, tg, tf, ag⟩, hNu, hMp, hSe, hEv, hBo⟩, hC, hI, hSp, hHu, hT, hTa⟩ := h
  obtain ⟨n, hn⟩ := toN (show 0 ≤ x 1 by omega)
  have k9 : wp (f_X9_shorten (F 0) (B 1) (B 20)) (fun o => Tb o.2.1 ∧ Ag n o.2.1 (SHn (B 1) n) ∧ o.1 = S9 (fun i j => ne1 (B 1 (5 * i + j)) (o.2.1 (5 * i + j))) n) := by
    unfold f_X9_shorten
    rw [e0, hn]
    exact w_b3 (shorts_X9 (by omega) (by omega) tf) (fun a b d q => w_s q)
  rw [hn] at ag
  rw [hn]
  refine wp_two (shorten_X8 (n := n) (s := x 15) (d := X 12) (by omega) (by omega) tg) k9 (fun a b e1 e2 p q => ?_)
  obtain ⟨r, o0, o1, o2⟩ := a
  obtain ⟨r', o0', o1'⟩ := b
  have p1 : Tb o0 := p.1
  have p2 : Ag n o0 (SHn (X 0) n) := p.2.1
  have p3 : r = S4 (fun i j => ne1 (o0 (5 * i + j)) (X 0 (5 * i + j))) n := p.2.2.1
  have q1 : Tb o0' := q.1
  have q2 : Ag n o0' (SHn (B 1) n) := q.2.1
  have q3 : r' = S9 (fun i j => ne1 (B 1 (5 * i + j)) (o0' (5 * i + j))) n := q.2.2
  have ago : Ag n o0 o0' := Ag_tr p2 (Ag_tr (SHn_c (by omega) ag n (Nat.le_refl _)) (Ag_sym q2))
  have er : r = r' := by
    rw [p3, q3]
    refine S_same (by omega) (by omega) (fun i j hij hj => ?_)
    show ne1 (o0 (5 * i + j)) (X 0 (5 * i + j)) = ne1 (B 1 (5 * j + i)) (o0' (5 * j + i))
    rw [ago i j (by omega) (by omega), ag i j (by omega) (by omega), (q1 i j (by omega) (by omega)).2.2.1, (tf i j (by omega) (by omega)).2.2.1, ne1_sym]
  subst er
  refine ⟨r, o0, o1, o2, o0', o1', e1, e2, ⟨⟨e0, h3, h5, p1, q1, ?_⟩, hNu, hMp, hSe, hEv, hBo⟩, hC, hI, hSp, hHu, hT, hTa⟩
  show Ag (x 1) o0 o0'
  rw [hn]
  exact ago
/-- a point moves away from all others; all are drawn together -/
def mvw (p : Nat) (g : Nat → Int) : Nat → Int := fun k => if k / 5 ≠ k % 5 ∧ (k / 5 = p ∨ k % 5 = p) then mn 40 (g k + 1) else g k
theorem mvw_at {p i j : Nat} {g : Nat → Int} (hj : j < 5) : mvw p g (5 * i + j) = if i ≠ j ∧ (i = p ∨ j = p) then mn 40 (g (5 * i + j) + 1) else g (5 * i + j) := by
  unfold mvw
  rw [show (5 * i + j) / 5 = i by omega, show (5 * i + j) % 5 = j by omega]
theorem mvw_T {n p : Nat} {g : Nat → Int} (h5 : n ≤ 5) (tg : Tn n g) : Tn n (mvw p g) := fun i j hi hj => by
  have a := tg i j hi hj
  have m := mn_in (a := 40) (b := g (5 * i + j) + 1) (by omega)
  rw [mvw_at (by omega), mvw_at (by omega), mvw_at (by omega), ← a.2.2.1]
  split <;> split <;> split <;> omega
theorem mvw_c {n p : Nat} {g far : Nat → Int} (h5 : n ≤ 5) (ag : Ag n g far) : Ag n (mvw p g) (mvw p far) := fun i j hi hj => by
  rw [mvw_at (by omega), mvw_at (by omega), ag i j hi hj]
def drw (v : Int) (g : Nat → Int) : Nat → Int := fun k => if g k - v < 0 then 0 else g k - v
theorem drw_T {n : Nat} {v : Int} {g : Nat → Int} (hv : 0 ≤ v) (tg : Tn n g) : Tn n (drw v g) := fun i j hi hj => by
  have a := tg i j hi hj
  unfold drw
  split <;> split <;> split <;> omega
theorem drw_c {n : Nat} {v : Int} {g far : Nat → Int} (ag : Ag n g far) : Ag n (drw v g) (drw v far) := fun i j hi hj => by
  unfold drw
  rw [ag i j hi hj]
theorem drw_max {v a : Int} (r : 0 ≤ v ∧ v ≤ 9 ∧ 0 ≤ a ∧ a ≤ 40) : maxI 0 (a - v) = (if a - v < 0 then 0 else a - v) ∧ 0 ≤ maxI 0 (a - v) ∧ maxI 0 (a - v) ≤ 40 := by
  have := maxI_w (a := 0) (b := a - v) (by omega)
  split <;> omega
theorem mv_min {a : Int} (r : 0 ≤ a ∧ a ≤ 40) : minI 40 (a + 1) = mn 40 (a + 1) ∧ 0 ≤ mn 40 (a + 1) ∧ mn 40 (a + 1) ≤ 40 := by
  rw [mn_min (by omega)]
  exact ⟨rfl, mn_in (by omega)⟩
theorem away_X2 {n p : Nat} {g : Nat → Int} (h3 : 3 ≤ n) (h5 : n ≤ 5) (tg : Tb g) (hp : p < n) : wp (f_X2_moveAway p n g) (fun o => Tb o ∧ Ag n o (mvw p g)) := by
  unfold f_X2_moveAway
  refine w_q2 (fun k v c => v = (k : Int) ∧ Tb c ∧ ∀ i j, i < n → j < n → c (5 * i + j) = if i ≠ j ∧ ((i = p ∧ j < k) ∨ (j = p ∧ i < k)) then mn 40 (g (5 * i + j) + 1) else g (5 * i + j)) n 0 ⟨rfl, tg, fun i j _ _ => by rw [if_neg (by omega)]⟩ (by omega) (by omega) (fun k hk v c hI nx hn => ?_) (fun v c hI nx => ?_)
  · obtain ⟨rfl, t1, t2⟩ := hI
    have e1 := t2 p k hp hk
    rw [if_neg (by omega)] at e1
    refine w_ltT (by omega) ?_
    refine w_gap t1 (by omega) (fun r f l u => ?_)
    by_cases c1 : p = k
    · rw [put_X4_n ⟨by omega, by omega⟩ ⟨by omega, by omega⟩ (by omega) (by omega) (by omega), bd1_s]
      refine hn _ _ ⟨by omega, t1, fun i j hi hj => ?_⟩
      rw [t2 i j hi hj]
      by_cases d : i ≠ j ∧ ((i = p ∧ j < k) ∨ (j = p ∧ i < k))
      · rw [if_pos d, if_pos (by omega)]
      · rw [if_neg d, if_neg (by omega)]
    · have m := mv_min (a := r) (by omega)
      refine w_put (by omega) ?_
      rw [m.1]
      refine hn _ _ ⟨by omega, Tb_put t1 (by omega) (by omega) c1 m.2.1 m.2.2, fun i j hi hj => ?_⟩
      rw [put2_at _ _ (by omega) (by omega) (by omega) (by omega), t2 i j hi hj]
      have sy := tg p k (by omega) (by omega)
      by_cases d : (i = p ∧ j = k) ∨ (i = k ∧ j = p)
      · rw [if_pos d, if_pos (by omega), f, e1]
        rcases d with ⟨rfl, rfl⟩ | ⟨rfl, rfl⟩
        · rfl
        · rw [sy.2.2.1]
      · rw [if_neg d]
        by_cases d2 : i ≠ j ∧ ((i = p ∧ j < k) ∨ (j = p ∧ i < k))
        · rw [if_pos d2, if_pos (by omega)]
        · rw [if_neg d2, if_neg (by omega)]
  · obtain ⟨rfl, t1, t2⟩ := hI
    refine w_ltF (by omega) ?_
    refine w_s ⟨t1, fun i j hi hj => ?_⟩
    rw [t2 i j (by omega) (by omega), mvw_at (by omega)]
    by_cases d2 : i ≠ j ∧ (i = p ∨ j = p)
    · rw [if_pos d2, if_pos (by omega)]
    · rw [if_neg d2, if_neg (by omega)]
theorem draw_X2 {n : Nat} {p : Int} {g : Nat → Int} (h3 : 3 ≤ n) (h5 : n ≤ 5) (tg : Tb g) (hp : 0 ≤ p ∧ p ≤ 9) : wp (f_X2_drawTogether p n g) (fun o => Tb o ∧ Ag n o (drw p g)) := by
  unfold f_X2_drawTogether
  refine w_q2 (fun k v c => v = (k : Int) ∧ PI4 n k 0 g (drw p g) c) n 0 ⟨rfl, PI4_0 tg⟩ (by omega) (by omega) (fun k hk v c hI nx hn => ?_) (fun v c hI nx => ?_)
  · obtain ⟨rfl, p1⟩ := hI
    refine w_ltT (by omega) ?_
    refine w_l (fun x hx => ?_)
    refine w_q2 (fun m v c => v = (m : Int) ∧ k < m ∧ PI4 n k m g (drw p g) c) n (k + 1) ⟨by omega, by omega, PI4_b p1⟩ (by omega) (by omega) (fun m hm v c hI nw hw => ?_) (fun v c hI nw => ?_)
    · obtain ⟨rfl, km, p2⟩ := hI
      have e1 := PI4_c p2 km hm
      refine w_ltT (by omega) ?_
      refine w_gap p2.1 (by omega) (fun r f l u => ?_)
      have m1 := drw_max (v := p) (a := r) (by omega)
      refine w_put (by omega) ?_
      exact hw _ _ ⟨by omega, by omega, PI4_s h5 p2 km hm (by rw [m1.1, f, e1]; rfl) m1.2⟩
    · obtain ⟨rfl, km, p2⟩ := hI
      refine w_ltF (by omega) ?_
      exact hn _ _ ⟨by omega, PI4_n p2⟩
  · obtain ⟨rfl, p1⟩ := hI
    refine w_ltF (by omega) ?_
    exact w_s ⟨p1.1, PI4_e h5 (drw_T hp.1 (Tn_of h5 tg)) p1⟩
/-- one event -/
def evw (n : Nat) (what by' : Int) (g : Nat → Int) : Nat → Int := if what = 0 then mvw by'.toNat g else if what = 1 then drw by' g else SHn g n
/-- a row of EVENTS is as told; points that aren't there by then: nothing -/
def EvOk (what by' : Int) : Prop := (what = 0 ∧ 0 ≤ by' ∧ by' ≤ 4) ∨ (what = 1 ∧ 0 ≤ by' ∧ by' ≤ 9) ∨ (what = 2 ∧ by' = 0)
theorem evw_c {n : Nat} {a b : Int} {g far : Nat → Int} (h5 : n ≤ 5) (ag : Ag n g far) : Ag n (evw n a b g) (evw n a b far) := by
  unfold evw
  split
  · exact mvw_c h5 ag
  · split
    · exact drw_c ag
    · exact SHn_c h5 ag n (Nat.le_refl _)
theorem away_X2n {n : Nat} {p : Nat} {g : Nat → Int} (h3 : 3 ≤ n) (h5 : n ≤ 5) (tg : Tb g) (hp : n ≤ p) (hp4 : p ≤ 4) : wp (f_X2_moveAway p n g) (fun o => Tb o ∧ Ag n o (mvw p g)) := by
  unfold f_X2_moveAway
  refine w_q2 (fun k v c => v = (k : Int) ∧ c = g) n 0 ⟨rfl, rfl⟩ (by omega) (by omega) (fun k hk v c hI nx hn => ?_) (fun v c hI nx => ?_)
  · obtain ⟨rfl, rfl⟩ := hI
    have e : ∃ z, f_X4_gap p k n c = some z := by
      unfold f_X4_gap
      refine ⟨0, ?_⟩
      simp only [jn]
      rw [ltF (a := (p : Int)) (b := 0) (by omega) (by omega) (by omega) (by omega) (by omega), ltF (a := (p : Int)) (b := (n : Int)) (by omega) (by omega) (by omega) (by omega) (by omega)]
      rfl
    obtain ⟨z, ez⟩ := e
    refine w_ltT (by omega) ?_
    refine w_b1s ez ?_
    rw [put_X4_n ⟨by omega, by omega⟩ ⟨by omega, by omega⟩ (by omega) (by omega) (by omega), bd1_s]
    exact hn _ _ ⟨by omega, rfl⟩
  · obtain ⟨rfl, rfl⟩ := hI
    refine w_ltF (by omega) ?_
    refine w_s ⟨tg, fun i j hi hj => ?_⟩
    rw [mvw_at (by omega), if_neg (by omega)]
theorem happen_X2 {n h : Nat} {c : Nat → Int} {sS sW : Nat → Int} {g : Nat → Int} (h3 : 3 ≤ n) (h5 : n ≤ 5) (tg : Tb g) (h8 : h ≤ 8) (hc : ∀ k : Nat, k < h → c (3 * k) = sS k ∧ c (3 * k + 1) = sW k ∧ EvOk (sS k) (sW k)) : wp (f_X2_happenTo h c n g) (fun o => Tb o ∧ Ag n o (itN (fun k a => evw n (sS k) (sW k) a) g h)) := by
  unfold f_X2_happenTo
  refine w_q2 (fun k v cur => v = (k : Int) ∧ Tb cur ∧ Ag n cur (itN (fun k a => evw n (sS k) (sW k) a) g k)) h 0 ⟨rfl, tg, Ag_re⟩ (by omega) (by omega) (fun k hk v cur hI nx hn => ?_) (fun v cur hI nx => ?_)
  · obtain ⟨rfl, t1, t2⟩ := hI
    obtain ⟨q1, q2, q3⟩ := hc k hk
    have c0 := cell_X1 (k := k) (j := 0) (n := 24) (h := (h : Int)) (c := c) (by omega) (by omega) (by omega) (by omega) (by omega)
    have c1 := cell_X1 (k := k) (j := 1) (n := 24) (h := (h : Int)) (c := c) (by omega) (by omega) (by omega) (by omega) (by omega)
    replace c0 : f_X1_cell (k : Int) 0 24 (h : Int) c = some (sS k) := c0.trans (congrArg some q1)
    replace c1 : f_X1_cell (k : Int) 1 24 (h : Int) c = some (sW k) := c1.trans (congrArg some q2)
    refine w_ltT (by omega) ?_
    refine w_b1s c1 ?_
    refine w_b1s c0 ?_
    refine w_j ?_
    have ec : Ag n (evw n (sS k) (sW k) cur) (itN (fun k a => evw n (sS k) (sW k) a) g (k + 1)) := evw_c h5 t2
    rcases q3 with ⟨a, b1, b2⟩ | ⟨a, b1, b2⟩ | ⟨a, b⟩
    · refine w_eqT a ?_
      obtain ⟨p, hp⟩ := toN b1
      have e : evw n (sS k) (sW k) cur = mvw p cur := by
        unfold evw
        rw [if_pos a, hp]
        rfl
      rw [e] at ec
      rw [hp]
      by_cases c : p < n
      · exact w_b1 (away_X2 h3 h5 t1 c) (fun o ho => hn _ _ ⟨by omega, ho.1, Ag_tr ho.2 ec⟩)
      · exact w_b1 (away_X2n h3 h5 t1 (by omega) (by omega)) (fun o ho => hn _ _ ⟨by omega, ho.1, Ag_tr ho.2 ec⟩)
    · refine w_eqF (by omega) ?_
      refine w_eqT a ?_
      have e : evw n (sS k) (sW k) cur = drw (sW k) cur := by
        unfold evw
        rw [if_neg (by omega), if_pos a]
      rw [e] at ec
      exact w_b1 (draw_X2 h3 h5 t1 ⟨b1, b2⟩) (fun o ho => hn _ _ ⟨by omega, ho.1, Ag_tr ho.2 ec⟩)
    · refine w_eqF (by omega) ?_
      refine w_eqF (by omega) ?_
      have e : evw n (sS k) (sW k) cur = SHn cur n := by
        unfold evw
        rw [if_neg (by omega), if_neg (by omega)]
      rw [e] at ec
      exact w_b1 (shorts_X4 h3 h5 t1) (fun o ho => hn _ _ ⟨by omega, ho.1, Ag_tr ho.2 ec⟩)
  · obtain ⟨rfl, t1, t2⟩ := hI
    refine w_ltF (by omega) ?_
    exact w_s ⟨t1, t2⟩
theorem happens_X9 {n : Nat} {a b : Int} {g kp : Nat → Int} (h3 : 3 ≤ n) (h5 : n ≤ 5) (tg : Tb g) (hc : EvOk a b) : wp (f_X9_happens a b n g kp) (fun o => Tb o.1 ∧ Ag n o.1 (evw n a b g)) := by
  unfold f_X9_happens
  by_cases c2 : a = 2
  · refine w_eqT c2 ?_
    have e : evw n a b g = SHn g n := by
      unfold evw
      rw [if_neg (by omega), if_neg (by omega)]
    rw [e]
    exact w_b3 (shorts_X9 h3 h5 tg) (fun u v w h => w_s ⟨h.1, h.2.1⟩)
  · refine w_eqF (by rcases hc with h | h | h <;> omega) ?_
    have TG : Tn n (evw n a b g) := by
      unfold evw
      split
      · exact mvw_T h5 (Tn_of h5 tg)
      · split
        · exact drw_T (by rcases hc with h | h | h <;> omega) (Tn_of h5 tg)
        · exact SHn_T h5 (Tn_of h5 tg) n (Nat.le_refl _)
    refine w_q2 (fun k v c => v = (k : Int) ∧ PI9 n k 0 g (evw n a b g) c) n 0 ⟨rfl, PI9_0 tg⟩ (by omega) (by omega) (fun k hk v c hI nx hn => ?_) (fun v c hI nx => ?_)
    · obtain ⟨rfl, p1⟩ := hI
      refine w_ltT (by omega) ?_
      refine w_q2 (fun m v c => v = (m : Int) ∧ PI9 n k m g (evw n a b g) c) k 0 ⟨by omega, p1⟩ (by omega) (by omega) (fun m hm v c hI nw hw => ?_) (fun v c hI nw => ?_)
      · obtain ⟨rfl, p2⟩ := hI
        have e1 := PI9_c p2 hm hk
        refine w_ltT (by omega) ?_
        refine w_j ?_
        rcases hc with ⟨q, b1, b2⟩ | ⟨q, b1, b2⟩ | ⟨q, -⟩
        · refine w_eqF (by omega) ?_
          refine w_j ?_
          obtain ⟨p, hp⟩ := toN b1
          subst hp
          have e : evw n a p g = mvw p g := by
            unfold evw
            rw [if_pos q]
            rfl
          have go : (k = p ∨ m = p) → wp (bd1 (f_X9_d (k : Int) (m : Int) c) (fun r79 => bd1 (f_X9_lays (k : Int) (m : Int) (minI 40 (r79 + 1)) c) (fun c' => nw ((m : Int) + 1) c'))) (fun o => Tb o.1 ∧ Ag n o.1 (evw n a p g)) := by
            intro hh
            refine w_d p2.1 (by omega) (fun r f l u => ?_)
            have m1 := mv_min (a := r) (by omega)
            refine w_lays (by omega) ?_
            exact hw _ _ ⟨by omega, PI9_s h5 p2 hm hk (by rw [m1.1, f, e1, e, mvw_at (by omega), if_pos (by omega)]) (by rw [m1.1]; exact m1.2)⟩
          refine w_eq (by omega) (fun c1 => go (by omega)) (fun c1 => ?_)
          refine w_eq (by omega) (fun c2 => go (by omega)) (fun c2 => ?_)
          exact hw _ _ ⟨by omega, PI9_k p2 (by rw [e, mvw_at (i := k) (j := m) (by omega), if_neg (by omega)])⟩
        · refine w_eqT q ?_
          refine w_d p2.1 (by omega) (fun r f l u => ?_)
          have m1 := drw_max (v := b) (a := r) (by omega)
          refine w_lays (by omega) ?_
          have e : evw n a b g = drw b g := by
            unfold evw
            rw [if_neg (by omega), if_pos q]
          exact hw _ _ ⟨by omega, PI9_s h5 p2 hm hk (by rw [m1.1, f, e1, e]; rfl) m1.2⟩
        · exact absurd q c2
      · obtain ⟨rfl, p2⟩ := hI
        refine w_ltF (by omega) ?_
        exact hn _ _ ⟨by omega, PI9_n p2⟩
    · obtain ⟨rfl, p1⟩ := hI
      refine w_ltF (by omega) ?_
      exact w_s ⟨p1.1, PI9_e h5 TG p1⟩
