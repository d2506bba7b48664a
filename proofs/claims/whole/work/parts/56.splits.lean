/-! PURE PART: the list of splits that count -/
theorem sm_ins {c c' : Nat → Int} {p : Nat} {v : Int} (h1 : ∀ i, i < p → c' i = c i) (h2 : c' p = v) : ∀ t : Nat, (∀ i, p ≤ i → i < p + t → c' (i + 1) = c i) → sm c' (p + t + 1) = sm c (p + t) + v
  | 0, _ => by
    show sm c' p + c' p = sm c p + v
    rw [sm_c p h1, h2]
  | t + 1, h => by
    show sm c' (p + t + 1) + c' (p + t + 1) = sm c (p + t) + c (p + t) + v
    rw [sm_ins h1 h2 t (fun i a b => h i a (by omega)), h (p + t) (by omega) (by omega)]
    omega
/-- a list with one more at place p -/
def insAt (a a' : Nat → Int) (h p : Nat) (v : Int) : Prop := (∀ i, i < p → a' i = a i) ∧ a' p = v ∧ ∀ i, p ≤ i → i < h → a' (i + 1) = a i
theorem insert_X3 {h : Nat} {lot wt : Int} {b w : Nat → Int} (hh : h < 15) (hw : 0 ≤ wt ∧ wt ≤ 100) (wb : ∀ i, i < h → 0 ≤ w i ∧ w i ≤ 100) : wp (f_X3_insert lot wt h b w) (fun o => o.1 = h + 1 ∧ ∃ p : Nat, p ≤ h ∧ insAt b o.2.1 h p lot ∧ insAt w o.2.2 h p wt ∧ (∀ i, p ≤ i → i < h → w i < wt) ∧ (p = 0 ∨ ∃ q, p = q + 1 ∧ wt ≤ w q)) := by
  unfold f_X3_insert
  refine w_ltT (by omega) ?_
  refine w_q3 (fun t v b' w' => t ≤ h ∧ v = ((h - t : Nat) : Int) ∧ (∀ i, i < h - t → b' i = b i ∧ w' i = w i) ∧ (∀ i, h - t ≤ i → i < h → b' (i + 1) = b i ∧ w' (i + 1) = w i) ∧ ∀ i, h - t ≤ i → i < h → w i < wt) h 0 ⟨by omega, by omega, fun i _ => ⟨rfl, rfl⟩, fun i a b => absurd a (by omega), fun i a b => absurd a (by omega)⟩ (by omega) (by omega) (fun t ht v b' w' hI nx hn => ?_) (fun v b' w' hI nx => ?_)
  · obtain ⟨t1, rfl, t2, t3, t4⟩ := hI
    have ep : ((h - t : Nat) : Int) - 1 = ((h - t - 1 : Nat) : Int) := by omega
    have fin : (h - t = 0 ∨ ∃ q, h - t = q + 1 ∧ wt ≤ w q) → wp (grd (iin ((h - t : Nat) : Int) 15) (grd (iin ((h - t : Nat) : Int) 15) (lv ((h : Int) + 1) (fun x86 => some (x86, up b' (h - t) lot, up w' (h - t) wt))))) (fun o => o.1 = (h : Int) + 1 ∧ ∃ p : Nat, p ≤ h ∧ insAt b o.2.1 h p lot ∧ insAt w o.2.2 h p wt ∧ (∀ i, p ≤ i → i < h → w i < wt) ∧ (p = 0 ∨ ∃ q, p = q + 1 ∧ wt ≤ w q)) := by
      intro hp
      refine w_gi (by omega) ?_
      refine w_gi (by omega) ?_
      refine w_lz ?_
      refine w_s ⟨rfl, h - t, by omega, ⟨fun i hi => ?_, ?_, fun i a c => ?_⟩, ⟨fun i hi => ?_, ?_, fun i a c => ?_⟩, t4, hp⟩
      · show up b' (h - t) lot i = b i
        rw [up_ne _ _ (by omega)]
        exact (t2 i hi).1
      · exact up_eq _ _ _
      · show up b' (h - t) lot (i + 1) = b i
        rw [up_ne _ _ (by omega)]
        exact (t3 i a c).1
      · show up w' (h - t) wt i = w i
        rw [up_ne _ _ (by omega)]
        exact (t2 i hi).2
      · exact up_eq _ _ _
      · show up w' (h - t) wt (i + 1) = w i
        rw [up_ne _ _ (by omega)]
        exact (t3 i a c).2
    refine w_j ?_
    refine w_ltT (by omega) ?_
    rw [ep]
    refine w_gi (by omega) ?_
    rw [ix_nat (show h - t - 1 < 2147483648 by omega), ix_nat (show h - t < 2147483648 by omega)]
    have w1 := (t2 (h - t - 1) (by omega)).2
    have w2 := wb (h - t - 1) (by omega)
    refine w_lt (by omega) (fun c => ?_) (fun c => ?_)
    · refine w_gi (by omega) ?_
      refine w_l (fun x1 e1 => ?_)
      refine w_gi (by omega) ?_
      refine w_gi (by omega) ?_
      refine w_l (fun x2 e2 => ?_)
      refine w_gi (by omega) ?_
      refine hn _ _ _ ⟨by omega, by omega, fun i hi => ?_, fun i a d => ?_, fun i a d => ?_⟩
      · rw [up_ne _ _ (by omega), up_ne _ _ (by omega)]
        exact t2 i (by omega)
      · by_cases e : i = h - t - 1
        · subst e
          rw [show h - t - 1 + 1 = h - t by omega, up_eq, up_eq, e1, e2]
          exact t2 _ (by omega)
        · rw [up_ne _ _ (by omega), up_ne _ _ (by omega)]
          exact t3 i (by omega) d
      · by_cases e : i = h - t - 1
        · subst e
          omega
        · exact t4 i (by omega) d
    · exact fin (Or.inr ⟨h - t - 1, by omega, by omega⟩)
  · obtain ⟨t1, rfl, t2, t3, t4⟩ := hI
    refine w_j ?_
    refine w_ltF (by omega) ?_
    refine w_gi (by omega) ?_
    refine w_gi (by omega) ?_
    refine w_lz ?_
    rw [ix_nat (show h - h < 2147483648 by omega)]
    refine w_s ⟨rfl, h - h, by omega, ⟨fun i hi => absurd hi (by omega), up_eq _ _ _, fun i a c => ?_⟩, ⟨fun i hi => absurd hi (by omega), up_eq _ _ _, fun i a c => ?_⟩, t4, Or.inl (by omega)⟩
    · show up b' (h - h) lot (i + 1) = b i
      rw [up_ne _ _ (by omega)]
      exact (t3 i a c).1
    · show up w' (h - h) wt (i + 1) = w i
      rw [up_ne _ _ (by omega)]
      exact (t3 i a c).2
theorem SpP_in {n : Nat} {g : Nat → Int} {k h : Nat} {b w b' w' : Nat → Int} {p : Nat} (H : SpP n g k h b w) (hp : p ≤ h) (ib : insAt b b' h p ((2 * k + 2 : Nat) : Int)) (iw : insAt w w' h p (WT n g (2 * k + 2))) (c0 : 0 < WT n g (2 * k + 2)) (lo : ∀ i, p ≤ i → i < h → w i < WT n g (2 * k + 2)) (hi : p = 0 ∨ ∃ q, p = q + 1 ∧ WT n g (2 * k + 2) ≤ w q) : SpP n g (k + 1) (h + 1) b' w' := by
  obtain ⟨H1, H2, H3, H4⟩ := H
  obtain ⟨b1, b2, b3⟩ := ib
  obtain ⟨w1, w2, w3⟩ := iw
  have old : ∀ i, i < h + 1 → i = p ∨ ∃ q, q < h ∧ b' i = b q ∧ w' i = w q ∧ ((i < p ∧ q = i) ∨ (p < i ∧ i = q + 1)) := by
    intro i hi
    by_cases e : i = p
    · exact Or.inl e
    · by_cases l : i < p
      · exact Or.inr ⟨i, by omega, b1 i l, w1 i l, Or.inl ⟨l, rfl⟩⟩
      · have x := b3 (i - 1) (by omega) (by omega)
        have y := w3 (i - 1) (by omega) (by omega)
        rw [show i - 1 + 1 = i by omega] at x y
        exact Or.inr ⟨i - 1, by omega, x, y, Or.inr ⟨by omega, by omega⟩⟩
  have hiw : ∀ i, i < p → WT n g (2 * k + 2) ≤ w i := by
    intro i hi2
    rcases hi with e | ⟨q, e1, e2⟩
    · omega
    · by_cases eq : i = q
      · rw [eq]
        exact e2
      · have := H3 i q (by omega) (by omega)
        omega
  have bb : ∀ i, i < h → b i < ((2 * k + 2 : Nat) : Int) := by
    intro i hi
    obtain ⟨s, s1, s2, s3, s4, s5⟩ := H2 i hi
    omega
  refine ⟨by omega, fun i hi => ?_, fun i j hij hj => ?_, fun f => ?_⟩
  · rcases old i hi with e | ⟨q, q1, q2, q3, q4⟩
    · exact ⟨2 * k + 2, by rw [e, b2], by omega, by omega, by omega, by rw [e, w2], c0⟩
    · obtain ⟨s, s1, s2, s3, s4, s5, s6⟩ := H2 q q1
      exact ⟨s, by rw [q2, s1], s2, s3, by omega, by rw [q3, s5], s6⟩
  · rcases old i (by omega) with e | ⟨q, q1, q2, q3, q4⟩ <;> rcases old j hj with e' | ⟨q', q1', q2', q3', q4'⟩
    · omega
    · left
      rw [e, w2, q3']
      exact lo q' (by omega) q1'
    · rw [e', w2, b2, q2, q3]
      have x := hiw q (by omega)
      have y := bb q q1
      omega
    · rw [q3', q3, q2', q2]
      exact H3 q q' (by omega) q1'
  · show _ = sm (fun j => if 0 < WT n g (2 * j + 2) then f (2 * j + 2) else 0) k + (if 0 < WT n g (2 * k + 2) then f (2 * k + 2) else 0)
    rw [if_pos c0, ← H4 f]
    have := sm_ins (c := fun i => f (b i).toNat) (c' := fun i => f (b' i).toNat) (p := p) (v := f (2 * k + 2)) (fun i hi => by show f (b' i).toNat = f (b i).toNat; rw [b1 i hi]) (by show f (b' p).toNat = _; rw [b2]; rfl) (h - p) (fun i a c => by show f (b' (i + 1)).toNat = f (b i).toNat; rw [b3 i a (by omega)])
    rw [show p + (h - p) = h by omega] at this
    exact this
theorem SpP_no {n : Nat} {g : Nat → Int} {k h : Nat} {b w : Nat → Int} (H : SpP n g k h b w) (c0 : ¬ 0 < WT n g (2 * k + 2)) : SpP n g (k + 1) h b w := by
  obtain ⟨H1, H2, H3, H4⟩ := H
  refine ⟨by omega, fun i hi => ?_, H3, fun f => ?_⟩
  · obtain ⟨s, s1, s2, s3, s4, s5⟩ := H2 i hi
    exact ⟨s, s1, s2, s3, by omega, s5⟩
  · show _ = sm (fun j => if 0 < WT n g (2 * j + 2) then f (2 * j + 2) else 0) k + (if 0 < WT n g (2 * k + 2) then f (2 * k + 2) else 0)
    rw [if_neg c0, H4 f]
    omega
theorem S4_z {P : Nat → Nat → Int} {n : Nat} (h0 : ∀ i j, 0 ≤ P i j) (h3 : 3 ≤ n) (h5 : n ≤ 5) (e : S4 P n = 0) : ∀ i j, i < j → j < n → P i j = 0 := by
  have p01 := h0 0 1
  have p02 := h0 0 2
  have p12 := h0 1 2
  have p03 := h0 0 3
  have p13 := h0 1 3
  have p23 := h0 2 3
  have p04 := h0 0 4
  have p14 := h0 1 4
  have p24 := h0 2 4
  have p34 := h0 3 4
  intro i j hij hj
  have hn : n = 3 ∨ n = 4 ∨ n = 5 := by omega
  rcases hn with rfl | rfl | rfl
  · simp [S4, sf, sm] at e
    have : (i = 0 ∧ j = 1) ∨ (i = 0 ∧ j = 2) ∨ (i = 1 ∧ j = 2) := by omega
    rcases this with ⟨rfl, rfl⟩ | ⟨rfl, rfl⟩ | ⟨rfl, rfl⟩ <;> omega
  · simp [S4, sf, sm] at e
    have : (i = 0 ∧ j = 1) ∨ (i = 0 ∧ j = 2) ∨ (i = 1 ∧ j = 2) ∨ (i = 0 ∧ j = 3) ∨ (i = 1 ∧ j = 3) ∨ (i = 2 ∧ j = 3) := by omega
    rcases this with ⟨rfl, rfl⟩ | ⟨rfl, rfl⟩ | ⟨rfl, rfl⟩ | ⟨rfl, rfl⟩ | ⟨rfl, rfl⟩ | ⟨rfl, rfl⟩ <;> omega
  · simp [S4, sf, sm] at e
    have : (i = 0 ∧ j = 1) ∨ (i = 0 ∧ j = 2) ∨ (i = 1 ∧ j = 2) ∨ (i = 0 ∧ j = 3) ∨ (i = 1 ∧ j = 3) ∨ (i = 2 ∧ j = 3) ∨ (i = 0 ∧ j = 4) ∨ (i = 1 ∧ j = 4) ∨ (i = 2 ∧ j = 4) ∨ (i = 3 ∧ j = 4) := by omega
    rcases this with ⟨rfl, rfl⟩ | ⟨rfl, rfl⟩ | ⟨rfl, rfl⟩ | ⟨rfl, rfl⟩ | ⟨rfl, rfl⟩ | ⟨rfl, rfl⟩ | ⟨rfl, rfl⟩ | ⟨rfl, rfl⟩ | ⟨rfl, rfl⟩ | ⟨rfl, rfl⟩ <;> omega
theorem isLike_X4 {n m : Nat} {g d : Nat → Int} (h3 : 3 ≤ n) (h5 : n ≤ 5) (m3 : 3 ≤ m) (m5 : m ≤ 5) (tg : Tb g) (td : Tb d) : wp (f_X4_isLike n g m d) (fun r => (r = 1 ∧ n = m ∧ Ag n g d) ∨ r = 0) := by
  unfold f_X4_isLike
  refine w_j ?_
  refine w_j ?_
  refine w_eq (by omega) (fun c => ?_) (fun c => w_g0 (w_s (Or.inr rfl)))
  have e : n = m := by omega
  subst e
  refine w_b1 (otherwise_X4 h5 tg td) (fun r hr => ?_)
  refine w_eq (by omega) (fun c2 => ?_) (fun c2 => w_g0 (w_s (Or.inr rfl)))
  refine w_g1 (w_s (Or.inl ⟨rfl, rfl, ?_⟩))
  have z := S4_z (P := fun i j => ne1 (g (5 * i + j)) (d (5 * i + j))) (fun i j => (ne1_in _ _).1) h3 h5 (by omega)
  intro i j hi hj
  have t := tg i j (by omega) (by omega)
  have u := td i j (by omega) (by omega)
  by_cases c : i = j
  · subst c
    omega
  · by_cases l : i < j
    · exact ne1_0 (z i j l (by omega))
    · have := ne1_0 (z j i (by omega) (by omega))
      omega
theorem shl_n {n : Nat} (h3 : 3 ≤ n) (h5 : n ≤ 5) : shlI 1 (n : Int) = ((2 * (2 ^ (n - 1) - 1) + 2 : Nat) : Int) ∧ 2 ^ (n - 1) - 1 ≤ 15 ∧ 2 ^ n = 2 * (2 ^ (n - 1) - 1) + 2 := by
  have hn : n = 3 ∨ n = 4 ∨ n = 5 := by omega
  rcases hn with rfl | rfl | rfl <;> decide
theorem follow_X3 {m : Nat} {fol held n : Int} {g b w d : Nat → Int} (H : SpOk fol held n g b w) (m3 : 3 ≤ m) (m5 : m ≤ 5) (td : Tb d) : wp (f_X3_follow fol held n g b w m d) (fun o => o.1 = 1 ∧ o.2.2.1 = m ∧ Tb o.2.2.2.1 ∧ Ag m o.2.2.2.1 d ∧ SpL m o.2.1 o.2.2.2.1 o.2.2.2.2.1 o.2.2.2.2.2) := by
  obtain ⟨H0, H1⟩ := H
  unfold f_X3_follow
  obtain ⟨o, e1, e2⟩ := become_X4 (s := n) (m := (m : Int)) (g := g) (d := d)
  have to : Tb o := Tb_copy td e2
  obtain ⟨s1, s2, s3⟩ := shl_n m3 m5
  have new : wp (bd2 (f_X4_become n g m d) (fun this_basis_size_24 this_basis_gaps_24 => grd (isB 1) (lq4 (fun (n39 : Int → Int → (Nat → Int) → (Nat → Int) → Option (Int × Int × Int × (Nat → Int) × (Nat → Int) × (Nat → Int))) (v2_39 : Int) (this_held_39 : Int) (this_bits_39 : Nat → Int) (this_weights_39 : Nat → Int) => if ltI v2_39 (shlI 1 this_basis_size_24) = true then (bd1 (f_X4_weightOf v2_39 this_basis_size_24 this_basis_gaps_24) (fun r57 => jn (fun (this_held_71 : Int) (this_bits_71 : Nat → Int) (this_weights_71 : Nat → Int) => n39 (v2_39 + 2) this_held_71 this_bits_71 this_weights_71) (fun (k71 : Int → (Nat → Int) → (Nat → Int) → Option (Int × Int × Int × (Nat → Int) × (Nat → Int) × (Nat → Int))) => if ltI 0 r57 = true then (bd3 (f_X3_insert v2_39 r57 this_held_39 this_bits_39 this_weights_39) (fun this_held_68 this_bits_68 this_weights_68 => k71 this_held_68 this_bits_68 this_weights_68)) else (k71 this_held_39 this_bits_39 this_weights_39)))) else (some (1, this_held_39, this_basis_size_24, this_basis_gaps_24, this_bits_39, this_weights_39))) 300 2 0 b w))) (fun o => o.1 = 1 ∧ o.2.2.1 = m ∧ Tb o.2.2.2.1 ∧ Ag m o.2.2.2.1 d ∧ SpL m o.2.1 o.2.2.2.1 o.2.2.2.2.1 o.2.2.2.2.2) := by
    refine w_b2s e1 ?_
    refine w_g1 ?_
    rw [s1]
    refine w_q4 (fun k lot h b w => lot = ((2 * k + 2 : Nat) : Int) ∧ ∃ z : Nat, h = z ∧ SpP m o k z b w) (2 ^ (m - 1) - 1) 0 ⟨rfl, 0, rfl, Nat.le_refl _, fa_0, fun i j hij hj => absurd hj (Nat.not_lt_zero _), fun f => rfl⟩ (by omega) (by omega) (fun k hk lot h b w hI nx hn => ?_) (fun lot h b w hI nx => ?_)
    · obtain ⟨rfl, z, rfl, HP⟩ := hI
      refine w_ltT (by omega) ?_
      have sp : Spl m (2 * k + 2) := ⟨by omega, by omega, by omega⟩
      obtain ⟨w1, w2, w3⟩ := WT_X4 m3 m5 to sp
      refine w_b1s w1 ?_
      refine w_j ?_
      refine w_lt (by omega) (fun c => ?_) (fun c => ?_)
      · have z15 : z ≤ k := HP.1
        refine w_b3 (insert_X3 (by omega) (by omega) (fun i hi => ?_)) (fun a1 a2 a3 ha => ?_)
        · obtain ⟨s, t1, t2, t3, t4, t5, t6⟩ := HP.2.1 i hi
          have := WT_X4 m3 m5 to (s := s) ⟨t2, by omega, by omega⟩
          omega
        · obtain ⟨y1, p, y2, y3, y4, y5, y6⟩ := ha
          exact hn _ _ _ _ ⟨by omega, z + 1, y1, SpP_in HP y2 y3 y4 c y5 y6⟩
      · exact hn _ _ _ _ ⟨by omega, z, rfl, SpP_no HP (by omega)⟩
    · obtain ⟨rfl, z, rfl, HP⟩ := hI
      refine w_ltF (by omega) ?_
      exact w_s ⟨rfl, rfl, to, Ag_copy m5 e2, z, rfl, HP⟩
  refine w_j ?_
  rcases H0 with rfl | rfl
  · exact w_eqT rfl new
  · refine w_eqF (by omega) ?_
    obtain ⟨k, rfl, k3, k5, tg, L⟩ := H1 rfl
    refine w_b1 (isLike_X4 k3 k5 m3 m5 tg td) (fun r hr => ?_)
    rcases hr with ⟨r1, r2, r3⟩ | r0
    · subst r2
      refine w_eqF (by omega) ?_
      exact w_s ⟨rfl, rfl, tg, r3, L⟩
    · exact w_eqT r0 new
