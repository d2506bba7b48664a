/-! PURE PART: weight; what fits -/
theorem Spl_i {n s : Nat} (h3 : 3 ≤ n) (h5 : n ≤ 5) : isSpl (s : Int) (n : Int) ↔ Spl n s := by
  unfold Spl
  have hn : n = 3 ∨ n = 4 ∨ n = 5 := by omega
  rcases hn with rfl | rfl | rfl
  · show 2 ≤ (s : Int) ∧ (s : Int) ≤ 8 - 2 ∧ (s : Int) % 2 = 0 ↔ s % 2 = 0 ∧ 0 < s ∧ s < 8
    omega
  · show 2 ≤ (s : Int) ∧ (s : Int) ≤ 16 - 2 ∧ (s : Int) % 2 = 0 ↔ s % 2 = 0 ∧ 0 < s ∧ s < 16
    omega
  · show 2 ≤ (s : Int) ∧ (s : Int) ≤ 32 - 2 ∧ (s : Int) % 2 = 0 ↔ s % 2 = 0 ∧ 0 < s ∧ s < 32
    omega
theorem wp_e {α : Type} {t : Option α} {r : α} (h : wp t (fun s => s = r)) : t = some r := by
  obtain ⟨a, h1, h2⟩ := h
  rw [h1, h2]
theorem WT_X4 {n s : Nat} {g : Nat → Int} (h3 : 3 ≤ n) (h5 : n ≤ 5) (tg : Tb g) (hs : Spl n s) : f_X4_weightOf s n g = some (WT n g s) ∧ 0 ≤ WT n g s ∧ WT n g s ≤ 80 := by
  obtain ⟨r, e1, e2, e3, e4⟩ := weight_same h3 h5 tg tg Ag_re hs
  unfold WT
  rw [e1]
  exact ⟨rfl, e3, e4⟩
theorem WT_ag {n s : Nat} {g far : Nat → Int} (h3 : 3 ≤ n) (h5 : n ≤ 5) (tg : Tb g) (tf : Tb far) (ag : Ag n g far) (hs : Spl n s) : WT n g s = WT n far s := by
  obtain ⟨r, e1, e2, e3, e4⟩ := weight_same h3 h5 tg tf ag hs
  obtain ⟨r', e1', e2', e3', e4'⟩ := weight_same h3 h5 tf tf Ag_re hs
  rw [e2'] at e2
  unfold WT
  rw [e1, e1', e2]
theorem WT_X9 {n s : Nat} {g : Nat → Int} (h3 : 3 ≤ n) (h5 : n ≤ 5) (tg : Tb g) (hs : Spl n s) : f_X9_weightOf s n g = some (WT n g s) := by
  obtain ⟨r, e1, e2, e3, e4⟩ := weight_same h3 h5 tg tg Ag_re hs
  unfold WT
  rw [e1]
  exact e2
theorem st_19 {x : Nat → Int} {X : Nat → Nat → Int} {kx : Nat → Int64} {it : Nat → Nat → Int64} {F : Nat → Int} {B : Nat → Nat → Int} {cl bt : Nat → Int64} (h : Rel x X kx it F B cl bt) (p1 : Int) (g1 : rg p1) : ∃ (r : Int), f_X8_weight p1 (x 1) (X 0) = some r ∧ f_X9_weight p1 (F 0) (B 1) = some r ∧ Rel x X kx it F B cl bt := by
  obtain ⟨⟨⟨e0, h3, h5, tg, tf, ag⟩, hNu, hMp, hSe, hEv, hBo⟩, hR⟩ := id h
  obtain ⟨n, hn⟩ := toN (show 0 ≤ x 1 by omega)
  rw [hn] at ag
  rw [e0, hn]
  have key : ∃ r, wp (f_X8_weight p1 n (X 0)) (fun s => s = r) ∧ wp (f_X9_weight p1 n (B 1)) (fun s => s = r) := by
    unfold f_X8_weight f_X9_weight
    by_cases c : isSpl p1 n
    · obtain ⟨s, rfl⟩ := toN (show 0 ≤ p1 by omega)
      obtain ⟨r, a1, a2, a3⟩ := weight_same (n := n) (s := s) (by omega) (by omega) tg tf ag ((Spl_i (by omega) (by omega)).mp c)
      refine ⟨r, ?_, ?_⟩
      · refine w_b1s (isSplit_X4 g1 (by omega) (by omega)) ?_
        refine w_j ?_
        refine w_B (fun z => absurd c z) (fun _ => ?_)
        exact w_b1s a1 (w_s rfl)
      · refine w_b1s (isSplit_X9 g1 (by omega) (by omega)) ?_
        refine w_j ?_
        refine w_B (fun z => absurd c z) (fun _ => ?_)
        exact w_b1s a2 (w_s rfl)
    · refine ⟨-1, ?_, ?_⟩
      · refine w_b1s (isSplit_X4 g1 (by omega) (by omega)) ?_
        refine w_j ?_
        exact w_B (fun _ => w_s rfl) (fun z => absurd z c)
      · refine w_b1s (isSplit_X9 g1 (by omega) (by omega)) ?_
        refine w_j ?_
        exact w_B (fun _ => w_s rfl) (fun z => absurd z c)
  obtain ⟨r, a, b⟩ := key
  exact ⟨r, wp_e a, wp_e b, h⟩
/-- all of SEEN is so -/
def SEEN (n h : Nat) (sS sW : Nat → Int) (g : Nat → Int) : Prop := ∀ k, k < h → isSpl (sS k) n ∧ WT n g (sS k).toNat = sW k
def SeOk (h : Nat) (sS sW : Nat → Int) : Prop := h ≤ 4 ∧ ∀ k, k < h → 2 ≤ sS k ∧ sS k ≤ 30 ∧ 0 ≤ sW k ∧ sW k ≤ 99
theorem seen_X2 {n h : Nat} {c sS sW : Nat → Int} {g : Nat → Int} (h3 : 3 ≤ n) (h5 : n ≤ 5) (tg : Tb g) (hs : SeOk h sS sW) (hc : ∀ k : Nat, k < h → c (3 * k) = sS k ∧ c (3 * k + 1) = sW k) : wp (f_X2_isAsSeen h c n g) (fun r => bI r (SEEN n h sS sW g)) := by
  obtain ⟨h4, hs⟩ := hs
  unfold f_X2_isAsSeen
  refine w_q1 (fun k v => v = (k : Int) ∧ ∀ i, i < k → isSpl (sS i) n ∧ WT n g (sS i).toNat = sW i) h 0 ⟨rfl, fa_0⟩ (by omega) (by omega) (fun k hk v hI nx hn => ?_) (fun v hI nx => ?_)
  · obtain ⟨rfl, t1⟩ := hI
    obtain ⟨q1, q2⟩ := hc k hk
    obtain ⟨q3, q4, q5, q6⟩ := hs k hk
    have c0 := cell_X1 (k := k) (j := 0) (n := 12) (h := (h : Int)) (c := c) (by omega) (by omega) (by omega) (by omega) (by omega)
    have c1 := cell_X1 (k := k) (j := 1) (n := 12) (h := (h : Int)) (c := c) (by omega) (by omega) (by omega) (by omega) (by omega)
    replace c0 : f_X1_cell (k : Int) 0 12 (h : Int) c = some (sS k) := c0.trans (congrArg some q1)
    replace c1 : f_X1_cell (k : Int) 1 12 (h : Int) c = some (sW k) := c1.trans (congrArg some q2)
    refine w_ltT (by omega) ?_
    refine w_b1s c0 ?_
    refine w_b1s (isSplit_X4 ⟨by omega, by omega⟩ (by omega) (by omega)) ?_
    refine w_j ?_
    refine w_B (fun c => w_s (bI_0 (fun q => c (q k hk).1))) (fun c => ?_)
    obtain ⟨s, es⟩ := toN (show 0 ≤ sS k by omega)
    have sp : Spl n s := (Spl_i h3 h5).mp (es ▸ c)
    obtain ⟨w1, w2, w3⟩ := WT_X4 h3 h5 tg sp
    rw [← es] at w1
    refine w_b1s w1 ?_
    refine w_b1s c1 ?_
    have et : (sS k).toNat = s := by omega
    refine w_eq (by omega) (fun e => ?_) (fun e => ?_)
    · exact hn _ ⟨by omega, fa_s t1 ⟨c, by rw [et]; exact e⟩⟩
    · refine w_s (bI_0 (fun q => e ?_))
      have := (q k hk).2
      rw [et] at this
      exact this
  · obtain ⟨rfl, t1⟩ := hI
    refine w_ltF (by omega) ?_
    exact w_s (bI_1 t1)
theorem seen_X9 {n h : Nat} {sS sW : Nat → Int} {g : Nat → Int} (h3 : 3 ≤ n) (h5 : n ≤ 5) (tg : Tb g) (hs : SeOk h sS sW) : wp (f_X9_isAsSeen n h g sS sW) (fun r => bI r (TAB n g ∧ SEEN n h sS sW g)) := by
  obtain ⟨h4, hs⟩ := hs
  unfold f_X9_isAsSeen
  refine w_q1 (fun k v => v = (k : Int) ∧ ∀ i, i < k → isSpl (sS i) n ∧ WT n g (sS i).toNat = sW i) h 0 ⟨rfl, fa_0⟩ (by omega) (by omega) (fun k hk v hI nx hn => ?_) (fun v hI nx => ?_)
  · obtain ⟨rfl, t1⟩ := hI
    obtain ⟨q3, q4, q5, q6⟩ := hs k hk
    refine w_ltT (by omega) ?_
    refine w_gi (by omega) ?_
    rw [ix_nat (show k < 2147483648 by omega)]
    refine w_b1s (isSplit_X9 ⟨by omega, by omega⟩ (by omega) (by omega)) ?_
    refine w_j ?_
    refine w_B (fun c => w_s (bI_0 (fun q => c (q.2 k hk).1))) (fun c => ?_)
    refine w_gi (by omega) ?_
    obtain ⟨s, es⟩ := toN (show 0 ≤ sS k by omega)
    have sp : Spl n s := (Spl_i h3 h5).mp (es ▸ c)
    obtain ⟨-, w2, w3⟩ := WT_X4 h3 h5 tg sp
    have w1 := WT_X9 h3 h5 tg sp
    rw [← es] at w1
    refine w_b1s w1 ?_
    refine w_gi (by omega) ?_
    have et : (sS k).toNat = s := by omega
    refine w_eq (by omega) (fun e => ?_) (fun e => ?_)
    · exact hn _ ⟨by omega, fa_s t1 ⟨c, by rw [et]; exact e⟩⟩
    · refine w_s (bI_0 (fun q => e ?_))
      have := (q.2 k hk).2
      rw [et] at this
      exact this
  · obtain ⟨rfl, t1⟩ := hI
    refine w_ltF (by omega) ?_
    refine w_b1 (barred_X9 h5 tg) (fun r hr => ?_)
    have := FB_tab h5 hr
    repeat' (first | with_reducible refine w_l (fun _ _ => ?_) | with_reducible refine w_j ?_ | with_reducible refine w_gB ?_ | with_reducible refine w_g0 ?_ | with_reducible refine w_g1 ?_ | with_reducible refine w_gi (by omega) ?_ | with_reducible refine w_ltT (by omega) ?_ | with_reducible refine w_ltF (by omega) ?_ | with_reducible refine w_lt (by omega) (fun _ => ?_) (fun _ => ?_) | with_reducible refine w_eqT (by omega) ?_ | with_reducible refine w_eqF (by omega) ?_ | with_reducible refine w_eq (by omega) (fun _ => ?_) (fun _ => ?_) | with_reducible refine w_gap (by assumption) (by omega) (fun _ _ _ _ => ?_) | with_reducible refine w_d (by assumption) (by omega) (fun _ _ _ _ => ?_) | with_reducible refine w_bI (by assumption) (fun _ _ => ?_) (fun _ _ => ?_) | with_reducible refine w_gI (by assumption) ?_ | with_reducible refine w_gn (by omega) ?_)
    · exact w_s (bI_1 ⟨by rcases this with q | q; exact q.2; omega, t1⟩)
    · exact w_s (bI_0 (fun c => by rcases this with q | q; omega; exact q.2.2 c.1))
theorem SEEN_ag {n h : Nat} {sS sW : Nat → Int} {g far : Nat → Int} (h3 : 3 ≤ n) (h5 : n ≤ 5) (tg : Tb g) (tf : Tb far) (ag : Ag n g far) : SEEN n h sS sW g ↔ SEEN n h sS sW far := by
  have e : ∀ k, isSpl (sS k) n → WT n g (sS k).toNat = WT n far (sS k).toNat := by
    intro k hk
    refine WT_ag h3 h5 tg tf ag ?_
    obtain ⟨s, es⟩ := toN (show 0 ≤ sS k by omega)
    rw [show (sS k).toNat = s by omega]
    exact (Spl_i h3 h5).mp (es ▸ hk)
  refine ⟨fun h k hk => ⟨(h k hk).1, by rw [← e k (h k hk).1]; exact (h k hk).2⟩, fun h k hk => ⟨(h k hk).1, by rw [e k (h k hk).1]; exact (h k hk).2⟩⟩
/-- a truth counted -/
noncomputable def ind (p : Prop) : Int := @ite Int p (Classical.propDecidable p) 1 0
theorem ind_t {p : Prop} (h : p) : ind p = 1 := @if_pos p (Classical.propDecidable p) h Int 1 0
theorem ind_f {p : Prop} (h : ¬ p) : ind p = 0 := @if_neg p (Classical.propDecidable p) h Int 1 0
theorem ind_c {p q : Prop} (h : p ↔ q) : ind p = ind q := by
  by_cases c : p
  · rw [ind_t c, ind_t (h.mp c)]
  · rw [ind_f c, ind_f (fun z => c (h.mpr z))]
theorem ind_in (p : Prop) : 0 ≤ ind p ∧ ind p ≤ 1 := by
  by_cases c : p
  · rw [ind_t c]
    omega
  · rw [ind_f c]
    omega
theorem sm_sh (f : Nat → Int) : ∀ n : Nat, sm f (n + 1) = f 0 + sm (fun i => f (i + 1)) n
  | 0 => by simp only [sm]; omega
  | n + 1 => by
    rw [sm_s, sm_sh f n, sm_s]
    omega
theorem sm_rev (f : Nat → Int) : ∀ n : Nat, sm (fun i => f (n - i)) (n + 1) = sm f (n + 1)
  | 0 => rfl
  | n + 1 => by
    rw [sm_sh, sm_s f (n + 1), ← sm_rev f n, Int.add_comm]
    congr 1
    exact sm_c _ (fun i hi => congrArg f (by omega))
theorem put2_2 {n : Nat} {g : Nat → Int} (h5 : n ≤ 5) {p q : Nat} {u v : Int} (hp : p < 5) (hq : q < 5) : Ag n (put2 (put2 g p q u) p q v) (put2 g p q v) := fun i j hi hj => by
  rw [put2_at _ _ hp hq (by omega) (by omega), put2_at _ _ hp hq (by omega) (by omega), put2_at _ _ hp hq (by omega) (by omega)]
  split <;> rfl
def FIT (n h : Nat) (sS sW : Nat → Int) (g : Nat → Int) (p q : Nat) (v : Nat) : Prop := TAB n (put2 g p q v) ∧ SEEN n h sS sW (put2 g p q v)
theorem fits_X8 {n h : Nat} {c sS sW : Nat → Int} {g d : Nat → Int} {s w : Int} {p q : Nat} (h3 : 3 ≤ n) (h5 : n ≤ 5) (tg : Tb g) (hs : SeOk h sS sW) (hc : ∀ k : Nat, k < h → c (3 * k) = sS k ∧ c (3 * k + 1) = sW k) (hp : p < n) (hq : q < n) (hne : p ≠ q) (hw : w = 0 ∨ w = 1) : wp (f_X8_fits p q w n g h c s d) (fun o => (w = 0 → o.1 = sm (fun v => ind (FIT n h sS sW g p q v)) 41) ∧ (w = 1 → (o.1 = -5 ∧ ∀ v, v < 41 → ¬ FIT n h sS sW g p q v) ∨ ∃ v : Nat, v < 41 ∧ o.1 = v ∧ FIT n h sS sW g p q v ∧ ∀ u, u < v → ¬ FIT n h sS sW g p q u)) := by
  unfold f_X8_fits
  refine w_b1s (areTwo_X4 ⟨by omega, by omega⟩ ⟨by omega, by omega⟩ (by omega) (by omega)) ?_
  refine w_j ?_
  refine w_B (fun z => absurd (by omega) z) (fun _ => ?_)
  refine w_ltF (by omega) ?_
  refine w_ltF (by omega) ?_
  obtain ⟨o, e1, e2⟩ := become_X4 (s := s) (m := (n : Int)) (g := d) (d := g)
  refine w_b2s e1 ?_
  refine w_q4 (fun k many first v cur => v = (k : Int) ∧ Tb cur ∧ (∀ v, Ag n (put2 cur p q v) (put2 g p q v)) ∧ many = sm (fun v => ind (FIT n h sS sW g p q v)) k ∧ 0 ≤ many ∧ many ≤ k ∧ ((first = -5 ∧ ∀ v, v < k → ¬ FIT n h sS sW g p q v) ∨ ∃ v : Nat, v < k ∧ first = v ∧ FIT n h sS sW g p q v ∧ ∀ u, u < v → ¬ FIT n h sS sW g p q u)) 41 0 ⟨rfl, Tb_copy tg e2, fun v => Ag_put (Ag_copy h5 e2) (by omega) (by omega) (by omega), rfl, by omega, by omega, Or.inl ⟨rfl, fa_0⟩⟩ (by omega) (by omega) (fun k hk many first v cur hI nx hn => ?_) (fun many first v cur hI nx => ?_)
  · obtain ⟨rfl, t1, t2, t3, t4, t5, t6⟩ := hI
    have tp : Tb (put2 cur p q k) := Tb_put t1 (by omega) (by omega) hne (by omega) (by omega)
    have tq : Tb (put2 g p q k) := Tb_put tg (by omega) (by omega) hne (by omega) (by omega)
    have t2' : ∀ v, Ag n (put2 (put2 cur p q k) p q v) (put2 g p q v) := fun v => Ag_tr (put2_2 h5 (by omega) (by omega)) (t2 v)
    refine w_ltF (by omega) ?_
    refine w_put (by omega) ?_
    refine w_b1 (isTable_X4 h5 tp) (fun r hr => ?_)
    have no : ¬ FIT n h sS sW g p q k → wp (nx many first ((k : Int) + 1) (put2 cur p q k)) (fun o => (w = 0 → o.1 = sm (fun v => ind (FIT n h sS sW g p q v)) 41) ∧ (w = 1 → (o.1 = -5 ∧ ∀ v, v < 41 → ¬ FIT n h sS sW g p q v) ∨ ∃ v : Nat, v < 41 ∧ o.1 = v ∧ FIT n h sS sW g p q v ∧ ∀ u, u < v → ¬ FIT n h sS sW g p q u)) := by
      intro nf
      refine hn _ _ _ _ ⟨by omega, tp, t2', ?_, t4, by omega, ?_⟩
      · rw [sm_s, ind_f nf]
        omega
      · rcases t6 with ⟨a, b⟩ | ⟨v, a, b⟩
        · exact Or.inl ⟨a, fa_s b nf⟩
        · exact Or.inr ⟨v, by omega, b⟩
    refine w_j ?_
    refine w_bI hr (fun z _ => no (fun f => z ((TAB_ag (t2 k)).mpr f.1))) (fun y1 _ => ?_)
    refine w_b1 (seen_X2 h3 h5 tp hs hc) (fun r2 hr2 => ?_)
    refine w_bI hr2 (fun z _ => no (fun f => z ((SEEN_ag h3 h5 tp tq (t2 k)).mpr f.2))) (fun y2 _ => ?_)
    have yf : FIT n h sS sW g p q k := ⟨(TAB_ag (t2 k)).mp y1, (SEEN_ag h3 h5 tp tq (t2 k)).mp y2⟩
    refine w_j ?_
    have i1 := ind_t yf
    have sms := sm_s (fun v => ind (FIT n h sS sW g p q v)) k
    rcases t6 with ⟨a, b⟩ | ⟨v, a, b, cc⟩
    · refine w_eqT a ?_
      exact hn _ _ _ _ ⟨by omega, tp, t2', by omega, by omega, by omega, Or.inr ⟨k, by omega, rfl, yf, b⟩⟩
    · refine w_eqF (by omega) ?_
      exact hn _ _ _ _ ⟨by omega, tp, t2', by omega, by omega, by omega, Or.inr ⟨v, by omega, b, cc⟩⟩
  · obtain ⟨rfl, t1, t2, t3, t4, t5, t6⟩ := hI
    refine w_ltT (by omega) ?_
    refine w_j ?_
    rcases hw with rfl | rfl
    · refine w_eqT rfl ?_
      exact w_s ⟨fun _ => t3, fun z => absurd z (by decide)⟩
    · refine w_eqF (by omega) ?_
      exact w_s ⟨fun z => absurd z (by decide), fun _ => t6⟩
theorem fits_X9 {n h : Nat} {sS sW : Nat → Int} {g : Nat → Int} {w : Int} {p q : Nat} (h3 : 3 ≤ n) (h5 : n ≤ 5) (tg : Tb g) (hs : SeOk h sS sW) (hp : p < n) (hq : q < n) (hne : p ≠ q) (hw : w = 0 ∨ w = 1) : wp (f_X9_fits p q w n h g sS sW) (fun o => Tb o.2 ∧ Ag n o.2 g ∧ (w = 0 → o.1 = sm (fun v => ind (FIT n h sS sW g p q (40 - v))) 41) ∧ (w = 1 → (o.1 = -5 ∧ ∀ v, v < 41 → ¬ FIT n h sS sW g p q (40 - v)) ∨ ∃ v : Nat, v < 41 ∧ o.1 = 40 - v ∧ FIT n h sS sW g p q (40 - v) ∧ ∀ u, v < u → u < 41 → ¬ FIT n h sS sW g p q (40 - u))) := by
  unfold f_X9_fits
  refine w_b1s (areTwo_X9 ⟨by omega, by omega⟩ ⟨by omega, by omega⟩ (by omega) (by omega)) ?_
  refine w_j ?_
  refine w_B (fun z => absurd (by omega) z) (fun _ => ?_)
  refine w_b1s (in_X9 ⟨by omega, by omega⟩ ⟨by omega, by omega⟩ ⟨by omega, by omega⟩) ?_
  refine w_B (fun z => absurd (by omega) z) (fun _ => ?_)
  refine w_d tg (by omega) (fun z ez z0 z4 => ?_)
  refine w_q4 (fun k many first v cur => v = 40 - (k : Int) ∧ Tb cur ∧ (∀ v, Ag n (put2 cur p q v) (put2 g p q v)) ∧ many = sm (fun v => ind (FIT n h sS sW g p q (40 - v))) k ∧ 0 ≤ many ∧ many ≤ k ∧ ((first = -5 ∧ ∀ v, v < k → ¬ FIT n h sS sW g p q (40 - v)) ∨ ∃ v : Nat, v < k ∧ first = 40 - v ∧ FIT n h sS sW g p q (40 - v) ∧ ∀ u, v < u → u < k → ¬ FIT n h sS sW g p q (40 - u))) 41 0 ⟨rfl, tg, fun v => Ag_re, rfl, by omega, by omega, Or.inl ⟨rfl, fa_0⟩⟩ (by omega) (by omega) (fun k hk many first v cur hI nx hn => ?_) (fun many first v cur hI nx => ?_)
  · obtain ⟨rfl, t1, t2, t3, t4, t5, t6⟩ := hI
    have ek : (40 : Int) - (k : Int) = ((40 - k : Nat) : Int) := by omega
    have tp : Tb (put2 cur p q ((40 - k : Nat) : Int)) := Tb_put t1 (by omega) (by omega) hne (by omega) (by omega)
    have tq : Tb (put2 g p q ((40 - k : Nat) : Int)) := Tb_put tg (by omega) (by omega) hne (by omega) (by omega)
    have t2' : ∀ v, Ag n (put2 (put2 cur p q ((40 - k : Nat) : Int)) p q v) (put2 g p q v) := fun v => Ag_tr (put2_2 h5 (by omega) (by omega)) (t2 v)
    refine w_ltF (by omega) ?_
    rw [ek]
    refine w_lays (by omega) ?_
    refine w_b1 (seen_X9 h3 h5 tp hs) (fun r hr => ?_)
    have fe : (TAB n (put2 cur p q ((40 - k : Nat) : Int)) ∧ SEEN n h sS sW (put2 cur p q ((40 - k : Nat) : Int))) ↔ FIT n h sS sW g p q (40 - k) := ⟨fun f => ⟨(TAB_ag (t2 _)).mp f.1, (SEEN_ag h3 h5 tp tq (t2 _)).mp f.2⟩, fun f => ⟨(TAB_ag (t2 _)).mpr f.1, (SEEN_ag h3 h5 tp tq (t2 _)).mpr f.2⟩⟩
    have sms := sm_s (fun v => ind (FIT n h sS sW g p q (40 - v))) k
    refine w_j ?_
    refine w_bI (bI_c hr fe) (fun nf _ => ?_) (fun yf _ => ?_)
    · have i1 := ind_f nf
      refine hn _ _ _ _ ⟨by omega, tp, t2', by omega, t4, by omega, ?_⟩
      rcases t6 with ⟨a, b⟩ | ⟨v, a, b, c, d⟩
      · exact Or.inl ⟨a, fa_s b nf⟩
      · refine Or.inr ⟨v, by omega, b, c, fun u hu hv => ?_⟩
        by_cases e : u = k
        · subst e
          exact nf
        · exact d u hu (by omega)
    · have i1 := ind_t yf
      exact hn _ _ _ _ ⟨by omega, tp, t2', by omega, by omega, by omega, Or.inr ⟨k, by omega, by omega, yf, fun u hu hv => by omega⟩⟩
  · obtain ⟨rfl, t1, t2, t3, t4, t5, t6⟩ := hI
    refine w_ltT (by omega) ?_
    refine w_lays (by omega) ?_
    have tz : Tb (put2 cur p q z) := Tb_put t1 (by omega) (by omega) hne z0 z4
    have az : Ag n (put2 cur p q z) g := Ag_tr (t2 z) (fun i j hi hj => by
      rw [put2_at _ _ (by omega) (by omega) (by omega) (by omega), ez]
      by_cases c : (i = p ∧ j = q) ∨ (i = q ∧ j = p)
      · rw [if_pos c]
        rcases c with ⟨rfl, rfl⟩ | ⟨rfl, rfl⟩
        · rfl
        · exact (tg j i (by omega) (by omega)).2.2.1
      · rw [if_neg c])
    refine w_j ?_
    rcases hw with rfl | rfl
    · refine w_eqT rfl ?_
      exact w_s ⟨tz, az, fun _ => t3, fun z => absurd z (by decide)⟩
    · refine w_eqF (by omega) ?_
      exact w_s ⟨tz, az, fun z => absurd z (by decide), fun _ => t6⟩
