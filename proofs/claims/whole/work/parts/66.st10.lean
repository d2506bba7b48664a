/-! PURE PART: functionOf -/
theorem TI_ag {n : Nat} {g far f f' : Nat → Int} (ag : Ag n g far) (ef : ∀ x, x < n → f x = f' x) {x y : Nat} (hx : x < n) (hy : y < n) : TI g f x y ↔ TI far f' x y := by
  unfold TI
  rw [ag x y (by omega) (by omega), ef x hx, ef y hy]
theorem KEEP_ag {n : Nat} {g far f f' : Nat → Int} (ag : Ag n g far) (ef : ∀ x, x < n → f x = f' x) : KEEP n g f ↔ KEEP n far f' := by
  constructor
  · intro h x hx y hy ne
    have := h x hx y hy ne
    rw [ag x y (by omega) (by omega), ef x hx, ef y hy] at this
    exact this
  · intro h x hx y hy ne
    have := h x hx y hy ne
    rw [← ag x y (by omega) (by omega), ← ef x hx, ← ef y hy] at this
    exact this
theorem LEAST_ag {n : Nat} {g far f f' : Nat → Int} (ag : Ag n g far) (ef : ∀ x, x < n → f x = f' x) : LEAST n g f ↔ LEAST n far f' := by
  constructor
  · rintro ⟨h1, h2⟩
    refine ⟨(KEEP_ag ag ef).mp h1, fun x hx => ?_⟩
    obtain ⟨y, hy, t⟩ := h2 x hx
    exact ⟨y, hy, (TI_ag ag ef hx hy).mp t⟩
  · rintro ⟨h1, h2⟩
    refine ⟨(KEEP_ag ag ef).mpr h1, fun x hx => ?_⟩
    obtain ⟨y, hy, t⟩ := h2 x hx
    exact ⟨y, hy, (TI_ag ag ef hx hy).mpr t⟩
theorem TT_ag {n : Nat} {g far f f' : Nat → Int} (ag : Ag n g far) (ef : ∀ x, x < n → f x = f' x) : TT n g f = TT n far f' := by
  funext x y
  refine propext ⟨fun h => ⟨h.1, h.2.1, (TI_ag ag ef h.1 h.2.1).mp h.2.2⟩, fun h => ⟨h.1, h.2.1, (TI_ag ag ef h.1 h.2.1).mpr h.2.2⟩⟩
theorem b01_id {r : Int} (h : r = 0 ∨ r = 1) {α : Type} {K : α → Prop} {k : Int → Option α} (w : wp (k r) K) : wp (if eqI r 0 = true then k 0 else k 1) K := by
  rcases h with rfl | rfl
  · exact w_eqT rfl w
  · exact w_eqF (by omega) w
theorem st_10 {x : Nat → Int} {X : Nat → Nat → Int} {kx : Nat → Int64} {it : Nat → Nat → Int64} {F : Nat → Int} {B : Nat → Nat → Int} {cl bt : Nat → Int64} (h : Rel x X kx it F B cl bt) (p1 : Int) (g1 : rg p1) : ∃ (r : Int), f_X8_functionOf p1 (x 1) (X 0) (X 1) = some r ∧ f_X9_functionOf p1 (F 0) (B 1) (B 2) = some r ∧ Rel x X kx it F B cl bt := by
  obtain ⟨⟨⟨e0, h3, h5, tg, tf, ag⟩, hNu, hMp, hSe, hEv, hBo⟩, hR⟩ := id h
  obtain ⟨n, hn⟩ := toN (show 0 ≤ x 1 by omega)
  have ag' : Ag n (X 0) (B 1) := hn ▸ ag
  have n3 : 3 ≤ n := by omega
  have n5 : n ≤ 5 := by omega
  obtain ⟨g11, g12⟩ := id g1
  have ef : ∀ x, x < n → X 1 x = B 2 x := fun x hx => (hNu x (by omega)).1
  have fr : FR n (X 1) := fun x hx => by
    have := hNu x (by omega)
    omega
  have fr' : FR n (B 2) := fun x hx => by
    have := hNu x (by omega)
    omega
  have zz : ∀ x, x < n → B 2 (0 + x) = B 2 x := fun x _ => by rw [Nat.zero_add]
  have fin : wp (f_X8_functionOf p1 n (X 0) (X 1)) (fun r => wp (f_X9_functionOf p1 n (B 1) (B 2)) (fun s => s = r)) := by
    unfold f_X8_functionOf f_X9_functionOf
    refine w_b1s (has_X4 g1 (by omega) (by omega)) ?_
    refine w_B (fun c => ?_) (fun c => ?_)
    · have head : ∀ {t u : Option Int} {K : Int → Prop}, wp t K → wp (bd1 (f_X9_isPoint p1 n) (fun r2 => if eqI r2 0 = true then t else u)) K := fun ht => w_b1s (isPoint_X9 g1 (by omega) (by omega)) (w_B (fun _ => ht) (fun z => absurd z c))
      refine w_eq (by omega) (fun d => ?_) (fun d => ?_)
      · refine w_b1 (keep_X7 n5 tg fr) (fun r hr => ?_)
        refine w_b1s (oneIf_X8 (bI_or hr)) ?_
        refine w_s (head ?_)
        refine w_eqT d ?_
        refine w_b1 (keeps_X9 (a := 0) (N := 5) n5 tf fr' zz (by omega)) (fun s hs => ?_)
        refine w_j ?_
        refine b01_id (bI_or hs) (k := fun s => some s) ?_
        exact w_s (bI_u hs (bI_c hr (KEEP_ag ag' ef)))
      refine w_eq (by omega) (fun d1 => ?_) (fun d1 => ?_)
      · refine w_b1 (least_X7 n5 tg fr) (fun r hr => ?_)
        refine w_b1s (oneIf_X8 (bI_or hr)) ?_
        refine w_s (head ?_)
        refine w_eqF (by omega) ?_
        refine w_eqT d1 ?_
        refine w_b1 (isLeast_X9 (a := 0) (N := 5) n5 tf fr' zz (by omega)) (fun s hs => ?_)
        refine w_j ?_
        refine b01_id (bI_or hs) (k := fun s => some s) ?_
        exact w_s (bI_u hs (bI_c hr (LEAST_ag ag' ef)))
      refine w_eq (by omega) (fun d2 => ?_) (fun d2 => ?_)
      · refine w_b1 (least_X7 n5 tg fr) (fun r hr => ?_)
        refine w_bI hr (fun no _ => w_s (head ?_)) (fun yes _ => ?_)
        · refine w_eqF (by omega) ?_
          refine w_eqF (by omega) ?_
          refine w_eqT d2 ?_
          refine w_b1 (isLeast_X9 (a := 0) (N := 5) n5 tf fr' zz (by omega)) (fun s hs => ?_)
          refine w_j ?_
          exact w_bI hs (fun _ _ => w_s rfl) (fun y _ => absurd ((LEAST_ag ag' ef).mpr y) no)
        · refine w_b1 (tights_X7 n5 tg fr) (fun q hq => ?_)
          obtain ⟨R, rfl, hR, hM⟩ := hq
          refine w_b1 (depth_X7 (T := TT n (X 0) (X 1)) n5 hR hM (fun x y h => ⟨h.1, h.2.1⟩)) (fun d3 hd => ?_)
          refine w_s (head ?_)
          refine w_eqF (by omega) ?_
          refine w_eqF (by omega) ?_
          refine w_eqT d2 ?_
          refine w_b1 (isLeast_X9 (a := 0) (N := 5) n5 tf fr' zz (by omega)) (fun s hs => ?_)
          refine w_j ?_
          refine w_bI hs (fun z _ => absurd ((LEAST_ag ag' ef).mp yes) z) (fun _ _ => ?_)
          refine w_b1 (depth_X9 (a := 0) (N := 5) n5 tf fr' zz (by omega)) (fun d4 hd4 => ?_)
          refine w_s ?_
          rw [hd4, hd, TT_ag ag' ef]
      refine w_s (head ?_)
      refine w_eqF (by omega) ?_
      refine w_eqF (by omega) ?_
      refine w_eqF (by omega) ?_
      exact w_s rfl
    · obtain ⟨p, rfl⟩ := toN c.1
      refine w_gi (by omega) ?_
      refine w_s ?_
      refine w_b1s (isPoint_X9 g1 (by omega) (by omega)) ?_
      refine w_B (fun z => absurd c z) (fun _ => ?_)
      refine w_gi (by omega) ?_
      rw [ix_nat (show p < 2147483648 by omega)]
      exact w_s (ef p (by omega)).symm
  obtain ⟨r, e1, e2⟩ := fin
  exact ⟨r, by rw [hn]; exact e1, by rw [e0, hn]; exact wp_e e2, h⟩
