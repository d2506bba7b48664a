/-! PURE PART: both hulls tell the same corners -/
theorem w_b9 {A1 A2 A3 A4 A5 A6 A7 A8 A9 γ : Type} {Q : A1 × A2 × A3 × A4 × A5 × A6 × A7 × A8 × A9 → Prop} {t : Option (A1 × A2 × A3 × A4 × A5 × A6 × A7 × A8 × A9)} {k : A1 → A2 → A3 → A4 → A5 → A6 → A7 → A8 → A9 → Option γ} {K : γ → Prop} (h : wp t Q) (m : ∀ a b c d e f g i j, Q (a, b, c, d, e, f, g, i, j) → wp (k a b c d e f g i j) K) : wp (bd9 t k) K := by
  obtain ⟨⟨a, b, c, d, e, f, g, i, j⟩, h1, h2⟩ := h
  rw [h1]
  exact m a b c d e f g i j h2
theorem CORN_c {n : Nat} {g f f' : Nat → Int} (e : ∀ x, x < n → f x = f' x) (C : CORN n g f) : CORN n g f' := by
  obtain ⟨f8, K, s, S, R⟩ := C
  exact ⟨F80_c f8 (fun x hx => (e x hx).symm), (KEEP_ag Ag_re e).mp K, s, fun x hx => ⟨(S x hx).1, (TI_ag Ag_re e hx (S x hx).1).mp (S x hx).2⟩, R⟩
theorem MASK_ag {n R : Nat} {g far f : Nat → Int} (ag : Ag n g far) (h : MASK n g f R) : MASK n far f R := ⟨h.1, fun x y hx hy => (h.2 x y hx hy).trans ⟨fun q => ⟨q.1, q.2.1, (TI_ag ag (fun _ _ => rfl) q.1 q.2.1).mp q.2.2⟩, fun q => ⟨q.1, q.2.1, (TI_ag ag (fun _ _ => rfl) q.1 q.2.1).mpr q.2.2⟩⟩⟩
/-- the class's corners of a table -/
def HC (n : Nat) (far : Nat → Int) (h : Nat) (c : Nat → Nat) (held : Int) (kx : Nat → Int64) (tw : Nat → Int) : Prop := held = h ∧ h ≤ 37 ∧ SL h c (CSv n far) ∧ (∀ i, i < h → kx i = L6 (c i) ∧ c i < 2 ^ 35) ∧ (∀ i, i < h → ∃ R : Nat, tw i = R ∧ MASK n far (cf (c i)) R) ∧ ∀ i, i < h → CORN n far (cf (c i))
def HR (n h : Nat) (c : Nat → Nat) (held : Int) (cor : Nat → Int) : Prop := held = h ∧ ∀ i, i < h → ∀ x, x < n → cor (5 * i + x) = cf (c i) x
theorem HUL_HC {n : Nat} {g far : Nat → Int} {there held : Int} {kx : Nat → Int64} {tw : Nat → Int} (h5 : n ≤ 5) (ag : Ag n g far) (H : HUL n g there held kx tw) : (there = 0 ∧ ¬ TAB n far) ∨ (there = 1 ∧ TAB n far ∧ ∃ h c, HC n far h c held kx tw) := by
  rcases H with ⟨a, b⟩ | ⟨a, b, h, c, e1, e2, e3, e4, e5⟩
  · exact Or.inl ⟨a, fun q => b ((TAB_ag ag).mpr q)⟩
  · have e3' : SL h c (CSv n far) := SL_c e3 (fun v => CSv_ag ag)
    refine Or.inr ⟨a, (TAB_ag ag).mp b, h, c, e1, e2, e3', e4, fun i hi => ?_, fun i hi => ?_⟩
    · obtain ⟨R, r1, r2⟩ := e5 i hi
      exact ⟨R, r1, MASK_ag ag r2⟩
    · obtain ⟨f, C, ef⟩ := (e3'.2 (c i)).mpr ⟨i, hi, rfl⟩
      refine CORN_c (fun x hx => ?_) C
      rw [ef]
      exact (dec_f C.1 h5 hx).symm
theorem HUR_HR {n h : Nat} {far : Nat → Int} {c : Nat → Nat} {held : Int} {cor : Nat → Int} (h5 : n ≤ 5) (S : SL h c (CSv n far)) (H : HUR n far held cor) : HR n h c held cor := by
  obtain ⟨h', c', e1, e2, e3, e4⟩ := H
  obtain ⟨u1, u2⟩ := SL_u S e3
  subst u1
  refine ⟨e1, fun i hi x hx => ?_⟩
  obtain ⟨f, f1, f2, f3⟩ := e4 i hi
  rw [f3 x hx, u2 i hi, ← f2]
  exact (dec_f f1 h5 hx).symm
theorem cf_80 {n : Nat} {far : Nat → Int} {K : Nat} (C : CORN n far (cf K)) : F80 n (cf K) := C.1
abbrev HOut := Int × Int × Int × Int × Int × (Nat → Int) × (Nat → Int) × (Nat → Int64) × (Nat → Int)
def HO (o : HOut) : Prop := HuOk o.2.1 o.2.2.1 o.2.2.2.1 o.2.2.2.2.1 o.2.2.2.2.2.1 o.2.2.2.2.2.2.2.1 o.2.2.2.2.2.2.2.2
theorem has_X0 {p : Int} {h : Nat} (hp : rg p) (hh : h ≤ 37) : f_X0_has p h = some (b01 (0 ≤ p ∧ p < h)) := by
  obtain ⟨g1, g2⟩ := hp
  refine wp_e ?_
  unfold f_X0_has
  refine w_j ?_
  refine w_j ?_
  refine w_lt (by omega) (fun c => w_g0 (w_s (b01_f (by omega)).symm)) (fun c => ?_)
  exact w_lt (by omega) (fun d => w_g1 (w_s (b01_t (by omega)).symm)) (fun d => w_g0 (w_s (b01_f (by omega)).symm))
theorem refusal_X8 {m : Nat} {p fol there held s : Int} {g nu tw d far : Nat → Int} {kx : Nat → Int64} (hp : rg p) (H : HuOk fol there held s g kx tw) (m3 : 3 ≤ m) (m5 : m ≤ 5) (td : Tb d) (ag : Ag m d far) : wp (f_X8_cornerRefusal p m d fol there held s g nu kx tw) (fun o => HO o ∧ o.2.2.2.2.1 = m ∧ ((o.1 = -3 ∧ ¬ TAB m far) ∨ (TAB m far ∧ ∃ h c, HC m far h c o.2.2.2.1 o.2.2.2.2.2.2.2.1 o.2.2.2.2.2.2.2.2 ∧ ((o.1 = -1 ∧ ¬ (0 ≤ p ∧ p < h)) ∨ (o.1 = 0 ∧ 0 ≤ p ∧ p < h))))) := by
  unfold f_X8_cornerRefusal
  refine w_b8 (follow_X0 H m3 m5 td) (fun a1 a2 a3 a4 a5 a6 a7 a8 ha => ?_)
  obtain ⟨q1, q2, q3, q4, q5⟩ := ha
  rcases HUL_HC m5 (Ag_tr q4 ag) q5 with ⟨z1, z2⟩ | ⟨z1, z2, h, c, z3⟩
  · refine w_eqT z1 ?_
    exact w_s ⟨q1, q2, Or.inl ⟨rfl, z2⟩⟩
  · have z1' : a2 = 1 := z1
    subst z1'
    have eh : a3 = h := z3.1
    refine w_eqF (by omega) ?_
    rw [eh]
    refine w_b1s (has_X0 hp z3.2.1) ?_
    refine w_j ?_
    rw [← eh]
    refine w_B (fun c2 => w_s ⟨q1, q2, Or.inr ⟨z2, h, c, z3, Or.inl ⟨rfl, by rw [eh] at c2; exact c2⟩⟩⟩) (fun c2 => w_s ⟨q1, q2, Or.inr ⟨z2, h, c, z3, Or.inr ⟨rfl, by rw [eh] at c2; exact c2⟩⟩⟩)
theorem isCorner_X9 {p : Int} {h : Nat} (hp : rg p) (hh : h ≤ 37) : f_X9_isCorner p h = some (b01 (0 ≤ p ∧ p < h)) := by
  unfold f_X9_isCorner
  rw [in_X9 hp ⟨by omega, by omega⟩ ⟨by omega, by omega⟩, bd1_s, grd_s (b01_B _)]
  exact congrArg some (b01_c (by omega))
/-- the reference's head: its table, its corners -/
theorem w_ref {α : Type} {n : Nat} {c0 : Int} {far cor nm t0 : Nat → Int} {K : α → Prop} {k : Int → Int → (Nat → Int) → (Nat → Int) → (Nat → Int) → Option α} (h3 : 3 ≤ n) (h5 : n ≤ 5) (tf : Tb far) (no : ¬ TAB n far → ∀ a b c d, wp (k 0 a b c d) K) (yes : TAB n far → ∀ a b c d, HUR n far a b → wp (k 1 a b c d) K) : wp (bd5 (f_X9_isTable n c0 far cor nm t0) k) K := by
  refine w_b5 (isTable_X9 h3 h5 tf) (fun r a b c d hr => ?_)
  obtain ⟨q1, q2⟩ := hr
  rcases q1 with ⟨z1, z2⟩ | ⟨z1, z2⟩
  · have z1' : r = 1 := z1
    subst z1'
    exact yes z2 a b c d (q2 z2)
  · have z1' : r = 0 := z1
    subst z1'
    exact no z2 a b c d
theorem w_refc {α : Type} {n h : Nat} {p c0 : Int} {far cor nm t0 : Nat → Int} {c : Nat → Nat} {K : α → Prop} {G : Int → (Nat → Int) → (Nat → Int) → (Nat → Int) → Option α} {F : Int → (Nat → Int) → (Nat → Int) → (Nat → Int) → Int → Option α} (h3 : 3 ≤ n) (h5 : n ≤ 5) (tf : Tb far) (T : TAB n far) (S : SL h c (CSv n far)) (h37 : h ≤ 37) (hp : rg p) (hc : 0 ≤ p ∧ p < h) (hk : ∀ a b c' d, HR n h c a b → wp (F a b c' d 1) K) : wp (bd5 (f_X9_isTable n c0 far cor nm t0) (fun r a b c' d => if eqI r 0 = true then G a b c' d else bd1 (f_X9_isCorner p a) (F a b c' d))) K := by
  refine w_ref h3 h5 tf (fun q => absurd T q) (fun _ a b c' d hu => ?_)
  have hr := HUR_HR h5 S hu
  have hk' := hk a b c' d hr
  refine w_eqF (by omega) ?_
  rw [hr.1] at hk' ⊢
  refine w_b1s (isCorner_X9 hp h37) ?_
  rw [b01_t hc]
  exact hk'
theorem w_refn {α : Type} {n h : Nat} {p c0 : Int} {far cor nm t0 : Nat → Int} {c : Nat → Nat} {K : α → Prop} {G : Int → (Nat → Int) → (Nat → Int) → (Nat → Int) → Option α} {F : Int → (Nat → Int) → (Nat → Int) → (Nat → Int) → Int → Option α} (h3 : 3 ≤ n) (h5 : n ≤ 5) (tf : Tb far) (T : TAB n far) (S : SL h c (CSv n far)) (h37 : h ≤ 37) (hp : rg p) (hc : ¬ (0 ≤ p ∧ p < h)) (hk : ∀ a b c' d, wp (F a b c' d 0) K) : wp (bd5 (f_X9_isTable n c0 far cor nm t0) (fun r a b c' d => if eqI r 0 = true then G a b c' d else bd1 (f_X9_isCorner p a) (F a b c' d))) K := by
  refine w_ref h3 h5 tf (fun q => absurd T q) (fun _ a b c' d hu => ?_)
  have hr := HUR_HR h5 S hu
  have hk' := hk a b c' d
  refine w_eqF (by omega) ?_
  rw [hr.1] at hk' ⊢
  refine w_b1s (isCorner_X9 hp h37) ?_
  rw [b01_f hc]
  exact hk'
theorem corners_both {n : Nat} {fol there held s c0 : Int} {g nu tw d far cor nm t0 : Nat → Int} {kx : Nat → Int64} (h3 : 3 ≤ n) (h5 : n ≤ 5) (H : HuOk fol there held s g kx tw) (td : Tb d) (tf : Tb far) (ag : Ag n d far) : wp (f_X8_corners n d fol there held s g nu kx tw) (fun o => HO o ∧ wp (f_X9_corners n c0 far cor nm t0) (fun u => u.1 = o.1)) := by
  unfold f_X8_corners f_X9_corners
  refine w_b8 (follow_X0 H h3 h5 td) (fun a1 a2 a3 a4 a5 a6 a7 a8 ha => ?_)
  obtain ⟨q1, q2, q3, q4, q5⟩ := ha
  refine w_j ?_
  rcases HUL_HC h5 (Ag_tr q4 ag) q5 with ⟨z1, z2⟩ | ⟨z1, z2, h, c, z3⟩
  · refine w_eqT z1 ?_
    refine w_s ⟨q1, ?_⟩
    exact w_ref h3 h5 tf (fun _ a b c d => w_j (w_eqT rfl (w_s rfl))) (fun q => absurd q z2)
  · have z1' : a2 = 1 := z1
    subst z1'
    refine w_eqF (by omega) ?_
    refine w_s ⟨q1, ?_⟩
    refine w_ref h3 h5 tf (fun q => absurd z2 q) (fun _ a b c' d hu => ?_)
    have hr := HUR_HR h5 z3.2.2.1 hu
    refine w_j ?_
    refine w_eqF (by omega) ?_
    exact w_s (hr.1.trans z3.1.symm)
theorem at_both {n : Nat} {p1 p2 fol there held s c0 : Int} {g nu tw d far cor nm t0 : Nat → Int} {kx : Nat → Int64} (g1 : rg p1) (g2 : rg p2) (h3 : 3 ≤ n) (h5 : n ≤ 5) (H : HuOk fol there held s g kx tw) (td : Tb d) (tf : Tb far) (ag : Ag n d far) : wp (f_X8_at p1 p2 n d fol there held s g nu kx tw) (fun o => HO o ∧ wp (f_X9_at p1 p2 n c0 far cor nm t0) (fun u => u.1 = o.1)) := by
  unfold f_X8_at f_X9_at
  refine w_b9 (refusal_X8 g1 H h3 h5 td ag) (fun r a1 a2 a3 a4 a5 a6 a7 a8 ha => ?_)
  obtain ⟨q1, q2, q3⟩ := ha
  rcases q3 with ⟨z1, z2⟩ | ⟨z2, h, c, z3, z4⟩
  · have z1' : r = -3 := z1
    subst z1'
    refine w_eqF (by omega) ?_
    refine w_s ⟨q1, ?_⟩
    exact w_ref h3 h5 tf (fun _ a b c d => w_eqT rfl (w_s rfl)) (fun q => absurd q z2)
  · rcases z4 with ⟨y1, y2⟩ | ⟨y1, y2⟩
    · have y1' : r = -1 := y1
      subst y1'
      refine w_eqF (by omega) ?_
      refine w_s ⟨q1, ?_⟩
      refine w_refn h3 h5 tf z2 z3.2.2.1 z3.2.1 g1 y2 (fun a b c' d => ?_)
      refine w_j ?_
      refine w_j ?_
      exact w_eqT rfl (w_s rfl)
    · have y1' : r = 0 := y1
      subst y1'
      obtain ⟨i, rfl⟩ := toN y2.1
      have eh : a3 = h := z3.1
      have es : a4 = n := q2
      have hi : i < h := by omega
      have h37 := z3.2.1
      have ki := z3.2.2.2.1 i hi
      refine w_eqT rfl ?_
      refine w_b1s (has_X4 g2 (by omega) (by omega)) ?_
      refine w_j ?_
      refine w_B (fun c2 => w_s ⟨q1, w_refc h3 h5 tf z2 z3.2.2.1 h37 g1 y2 (fun a b c' d hr => ?_)⟩) (fun c2 => ?_)
      · refine w_j ?_
        refine w_j ?_
        refine w_eqF (by omega) ?_
        refine w_b1s (isPoint_X9 g2 (by omega) (by omega)) ?_
        exact w_B (fun _ => w_s rfl) (fun z => absurd z c2)
      · obtain ⟨x, rfl⟩ := toN c2.1
        have nb := number_X0 h5 h3 hi h37 (show x < n by omega) ki.1 ki.2
        refine w_b1s (show f_X0_number (i : Int) (x : Int) a3 a4 a7 = _ by rw [eh, es]; exact nb) ?_
        refine w_s ⟨q1, w_refc h3 h5 tf z2 z3.2.2.1 h37 g1 y2 (fun a b c' d hr => ?_)⟩
        refine w_j ?_
        refine w_j ?_
        refine w_eqF (by omega) ?_
        refine w_b1s (isPoint_X9 g2 (by omega) (by omega)) ?_
        refine w_B (fun z => absurd c2 z) (fun _ => ?_)
        rw [show (5 * (i : Int) + (x : Int)) = ((5 * i + x : Nat) : Int) by omega]
        refine w_gi (by omega) ?_
        rw [ix_nat (show 5 * i + x < 2147483648 by omega), hr.2 i hi x (by omega)]
        exact w_s rfl
