/-! PURE PART: told -/
theorem st_9 {x : Nat → Int} {X : Nat → Nat → Int} {kx : Nat → Int64} {it : Nat → Nat → Int64} {F : Nat → Int} {B : Nat → Nat → Int} {cl bt : Nat → Int64} (h : Rel x X kx it F B cl bt) (p1 : Int) (g1 : rg p1) : ∃ (r : Int) (o0 : Int) (o1 : Int) (o2 : Int) (o3 : Nat → Int) (o4 : Nat → Int) (o5 : Nat → Int) (o0' : Nat → Int), f_X8_told p1 (x 1) (X 0) (x 16) (x 17) (x 18) (X 13) (X 14) (X 15) = some (r, o0, o1, o2, o3, o4, o5) ∧ f_X9_told p1 (F 0) (B 1) (B 22) = some (r, o0') ∧ Rel (up (up (up x 16 o0) 17 o1) 18 o2) (up (up (up X 13 o3) 14 o4) 15 o5) kx it F (up B 22 o0') cl bt := by
  obtain ⟨⟨⟨e0, h3, h5, tg, tf, ag⟩, hNu, hMp, hSe, hEv, hBo⟩, hC, hI, hSp, hHu, hT, hTa⟩ := h
  obtain ⟨n, hn⟩ := toN (show 0 ≤ x 1 by omega)
  have ag' : Ag n (X 0) (B 1) := hn ▸ ag
  have n3 : 3 ≤ n := by omega
  have n5 : n ≤ 5 := by omega
  obtain ⟨g11, g12⟩ := id g1
  have i3 : (3 : Int) ≤ (n : Int) := by omega
  have i5 : (n : Int) ≤ 5 := by omega
  have ai : Ag (n : Int) (X 0) (B 1) := ag'
  have fin : wp (f_X8_told p1 n (X 0) (x 16) (x 17) (x 18) (X 13) (X 14) (X 15)) (fun o => SpOk o.2.1 o.2.2.1 o.2.2.2.1 o.2.2.2.2.1 o.2.2.2.2.2.1 o.2.2.2.2.2.2 ∧ wp (f_X9_told p1 n (B 1) (B 22)) (fun u => u.1 = o.1)) := by
    unfold f_X8_told f_X9_told
    refine w_eq (by omega) (fun c0 => ?_) (fun c0 => ?_)
    · refine w_s ⟨hSp, ?_⟩
      refine w_eqT (by omega) ?_
      exact w_s rfl
    refine w_eq (by omega) (fun c1 => ?_) (fun c1 => ?_)
    · refine w_b1 (isTable_X4 n5 tg) (fun r hr => ?_)
      refine w_b1s (oneIf_X8 (bI_or hr)) ?_
      refine w_s ⟨hSp, ?_⟩
      refine w_eqF (by omega) ?_
      refine w_eqT (by omega) ?_
      refine w_b1 (barred_X9 n5 tf) (fun q hq => ?_)
      have hq2 := FB_tab n5 hq
      refine w_j ?_
      refine w_lt (by omega) (fun d => ?_) (fun d => ?_)
      · exact w_s (bI_u (bI_1 (by rcases hq2 with z | z; exact z.2; omega)) (bI_c hr (TAB_ag ag')))
      · exact w_s (bI_u (bI_0 (by rcases hq2 with z | z; omega; exact z.2.2)) (bI_c hr (TAB_ag ag')))
    refine w_eq (by omega) (fun c2 => ?_) (fun c2 => ?_)
    · obtain ⟨r, q1, q2, q3⟩ := barred_same n5 tg tf ag'
      refine w_b1s q1 ?_
      refine w_s ⟨hSp, ?_⟩
      refine w_eqF (by omega) ?_
      refine w_eqF (by omega) ?_
      refine w_eqT (by omega) ?_
      exact w_b1s q2 (w_s rfl)
    refine w_eq (by omega) (fun c3 => ?_) (fun c3 => ?_)
    · refine w_b6 (follow_X3 hSp n3 n5 tg) (fun a1 a2 a3 a4 a5 a6 ha => ?_)
      obtain ⟨b1, b2, b3, b4, b5⟩ := ha
      have so : SpOk a1 a2 a3 a4 a5 a6 := SpOk_of b1 b2 n3 n5 b3 b5
      obtain ⟨hh, rfl, P⟩ := b5
      have P' : SpP n (B 1) (KK n) hh a5 a6 := SpP_ag n3 n5 b3 tf (Ag_tr b4 ag') (Nat.le_refl _) P
      refine w_s ⟨so, ?_⟩
      refine w_eqF (by omega) ?_
      refine w_eqF (by omega) ?_
      refine w_eqF (by omega) ?_
      refine w_eqT (by omega) ?_
      refine w_b1 (counting_X9 n3 n5 tf) (fun q hq => ?_)
      exact w_s (by show q = (hh : Int); rw [hq, ← SpP_h P'])
    refine w_eq (by omega) (fun c4 => ?_) (fun c4 => ?_)
    · obtain ⟨r, q1, q2, q3⟩ := isTree_same n5 tg tf ag'
      refine w_b1s q1 ?_
      refine w_b1s (oneIf_X8 q3) ?_
      refine w_s ⟨hSp, ?_⟩
      refine w_eqF (by omega) ?_
      refine w_eqF (by omega) ?_
      refine w_eqF (by omega) ?_
      refine w_eqF (by omega) ?_
      refine w_eqT (by omega) ?_
      refine w_b1s q2 ?_
      refine w_j ?_
      rcases q3 with rfl | rfl
      · exact w_eqT rfl (w_s rfl)
      · exact w_eqF (by omega) (w_s rfl)
    refine w_eq (by omega) (fun c5 => ?_) (fun c5 => ?_)
    · obtain ⟨r, q1, q2, q3⟩ := span_same (n := (n : Int)) i3 i5 tg tf ai
      refine w_b1s q1 ?_
      refine w_s ⟨hSp, ?_⟩
      refine w_eqF (by omega) ?_
      refine w_eqF (by omega) ?_
      refine w_eqF (by omega) ?_
      refine w_eqF (by omega) ?_
      refine w_eqF (by omega) ?_
      refine w_eqT (by omega) ?_
      exact w_b1s q2 (w_s rfl)
    refine w_eq (by omega) (fun c6 => ?_) (fun c6 => ?_)
    · obtain ⟨r, q1, q2⟩ := girth_same (n := (n : Int)) i3 i5 tf ai
      refine w_b1s q1 ?_
      refine w_s ⟨hSp, ?_⟩
      refine w_eqF (by omega) ?_
      refine w_eqF (by omega) ?_
      refine w_eqF (by omega) ?_
      refine w_eqF (by omega) ?_
      refine w_eqF (by omega) ?_
      refine w_eqF (by omega) ?_
      refine w_eqT (by omega) ?_
      exact w_b1s q2 (w_s rfl)
    refine w_eq (by omega) (fun c7 => ?_) (fun c7 => ?_)
    · obtain ⟨r, q1, q2⟩ := usual_same n3 n5 tg tf ag'
      refine w_b1s q1 ?_
      refine w_s ⟨hSp, ?_⟩
      refine w_eqF (by omega) ?_
      refine w_eqF (by omega) ?_
      refine w_eqF (by omega) ?_
      refine w_eqF (by omega) ?_
      refine w_eqF (by omega) ?_
      refine w_eqF (by omega) ?_
      refine w_eqF (by omega) ?_
      refine w_eqT (by omega) ?_
      exact w_b1s q2 (w_s rfl)
    refine w_eq (by omega) (fun c8 => ?_) (fun c8 => ?_)
    · obtain ⟨r, o, q1, q2⟩ := round_same (ord := B 22) n3 n5 tg tf ag'
      refine w_b1s q1 ?_
      refine w_s ⟨hSp, ?_⟩
      refine w_eqF (by omega) ?_
      refine w_eqF (by omega) ?_
      refine w_eqF (by omega) ?_
      refine w_eqF (by omega) ?_
      refine w_eqF (by omega) ?_
      refine w_eqF (by omega) ?_
      refine w_eqF (by omega) ?_
      refine w_eqF (by omega) ?_
      refine w_eqT (by omega) ?_
      exact w_b2s q2 (w_s rfl)
    refine w_eq (by omega) (fun c9 => ?_) (fun c9 => ?_)
    · obtain ⟨r, o, q1, q2⟩ := keepers_same (ord := B 22) n3 n5 tg tf ag'
      refine w_b1s q1 ?_
      refine w_s ⟨hSp, ?_⟩
      refine w_eqF (by omega) ?_
      refine w_eqF (by omega) ?_
      refine w_eqF (by omega) ?_
      refine w_eqF (by omega) ?_
      refine w_eqF (by omega) ?_
      refine w_eqF (by omega) ?_
      refine w_eqF (by omega) ?_
      refine w_eqF (by omega) ?_
      refine w_eqF (by omega) ?_
      refine w_eqT (by omega) ?_
      exact w_b2s q2 (w_s rfl)
    refine w_s ⟨hSp, ?_⟩
    refine w_eqF (by omega) ?_
    refine w_eqF (by omega) ?_
    refine w_eqF (by omega) ?_
    refine w_eqF (by omega) ?_
    refine w_eqF (by omega) ?_
    refine w_eqF (by omega) ?_
    refine w_eqF (by omega) ?_
    refine w_eqF (by omega) ?_
    refine w_eqF (by omega) ?_
    refine w_eqF (by omega) ?_
    exact w_s rfl
  obtain ⟨⟨r, o0, o1, o2, o3, o4, o5⟩, e1, so, ⟨r', o0'⟩, e2, er⟩ := fin
  have er' : r' = r := er
  subst er'
  exact ⟨r', o0, o1, o2, o3, o4, o5, o0', by rw [hn]; exact e1, by rw [e0, hn]; exact e2, ⟨⟨e0, h3, h5, tg, tf, ag⟩, hNu, hMp, hSe, hEv, hBo⟩, hC, hI, so, hHu, hT, hTa⟩
