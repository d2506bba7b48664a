/-! PURE PART: told -/
theorem st_9 {x : Nat → Int} {X : Nat → Nat → Int} {kx : Nat → Int64} {it : Nat → Nat → Int64} {F : Nat → Int} {B : Nat → Nat → Int} {cl bt : Nat → Int64} (h : Rel x X kx it F B cl bt) (p1 : Int) (g1 : rg p1) : ∃ (r : Int) (o0 : Int) (o1 : Int) (o2 : Int) (o3 : Nat → Int) (o4 : Nat → Int) (o5 : Nat → Int) (o0' : Nat → Int), f_X8_told p1 (x 1) (X 0) (x 16) (x 17) (x 18) (X 13) (X 14) (X 15) = some (r, o0, o1, o2, o3, o4, o5) ∧ f_X9_told p1 (F 0) (B 1) (B 22) = some (r, o0') ∧ Rel (up (up (up x 16 o0) 17 o1) 18 o2) (up (up (up X 13 o3) 14 o4) 15 o5) kx it F (up B 22 o0') cl bt := by
  obtain ⟨⟨⟨e0, h3, h5, tg, tf, ag⟩, hNu, hMp, hSe, hEv, hBo⟩, hC, hI, hSp, hHu, hT, hTa⟩ := h
  obtain ⟨n, hn⟩ := toN (show 0 ≤ x 1 by omega)
  have ag' : Ag n (X 0) (B 1) := hn ▸ ag
  have n3 : 3 ≤ n := by omega
  have n5 : n ≤ 5 := by omega
  obtain ⟨g11, g12⟩ := id g1
  have fin : wp (f_X8_told p1 n (X 0) (x 16) (x 17) (x 18) (X 13) (X 14) (X 15)) (fun o => SpOk o.2.1 o.2.2.1 o.2.2.2.1 o.2.2.2.2.1 o.2.2.2.2.2.1 o.2.2.2.2.2.2 ∧ wp (f_X9_told p1 n (B 1) (B 22)) (fun u => u.1 = o.1)) := by
    unfold f_X8_told f_X9_told
    sorry
  obtain ⟨⟨r, o0, o1, o2, o3, o4, o5⟩, e1, so, ⟨r', o0'⟩, e2, er⟩ := fin
  have er' : r' = r := er
  subst er'
  exact ⟨r', o0, o1, o2, o3, o4, o5, o0', by rw [hn]; exact e1, by rw [e0, hn]; exact e2, ⟨⟨e0, h3, h5, tg, tf, ag⟩, hNu, hMp, hSe, hEv, hBo⟩, hC, hI, so, hHu, hT, hTa⟩
