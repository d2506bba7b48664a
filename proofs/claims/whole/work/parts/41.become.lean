/-! PURE PART: one setup becomes another -/
theorem Tb_copy {g o : Nat → Int} (h : Tb g) (e : ∀ k : Nat, k < 25 → o k = g k) : Tb o := by
  intro i j hi hj
  rw [e _ (by omega), e _ (by omega), e _ (by omega)]
  exact h i j hi hj
theorem RSet_copy {n : Int} {g nu im g' nu' im' : Nat → Int} {sh : Int} {sc sc' : Nat → Int} {eh : Int} {ec ec' : Nat → Int} {bh : Int} {bc bc' : Nat → Int} {m : Int} {far nb be : Nat → Int} {s : Int} {sS sW : Nat → Int} {e : Int} {eW eB : Nat → Int} {b : Int} {b1 b2 b3 : Nat → Int} (H : RSet n g nu im sh sc eh ec bh bc m far nb be s sS sW e eW eB b b1 b2 b3) (cg : ∀ k : Nat, k < 25 → g' k = g k) (cn : ∀ k : Nat, k < 5 → nu' k = nu k) (ci : ∀ k : Nat, k < 5 → im' k = im k) (cs : ∀ j i : Nat, (j : Int) < sh → i < 3 → sc' (3 * j + i) = sc (3 * j + i)) (ce : ∀ j i : Nat, (j : Int) < eh → i < 3 → ec' (3 * j + i) = ec (3 * j + i)) (cb : ∀ j i : Nat, (j : Int) < bh → i < 3 → bc' (3 * j + i) = bc (3 * j + i)) : RSet n g' nu' im' sh sc' eh ec' bh bc' m far nb be s sS sW e eW eB b b1 b2 b3 := by
  obtain ⟨⟨e0, h3, h5, tg, tf, ag⟩, hNu, hMp, hSe, hEv, hBo⟩ := H
  refine ⟨⟨e0, h3, h5, Tb_copy tg cg, tf, fun i j hi hj => ?_⟩, fun k hk => ?_, fun k hk => ?_, ⟨hSe.1, hSe.2.1, hSe.2.2.1, fun k hk => ?_⟩, ⟨hEv.1, hEv.2.1, hEv.2.2.1, fun k hk => ?_⟩, ⟨hBo.1, hBo.2.1, hBo.2.2.1, fun k hk => ?_⟩⟩
  · rw [cg _ (by omega)]
    exact ag i j hi hj
  · rw [cn k hk]
    exact hNu k hk
  · rw [ci k hk]
    exact hMp k hk
  · have a0 := cs k 0 hk (by omega)
    have a1 := cs k 1 hk (by omega)
    have q := hSe.2.2.2 k hk
    exact ⟨a0.trans q.1, a1.trans q.2.1, q.2.2⟩
  · have a0 := ce k 0 hk (by omega)
    have a1 := ce k 1 hk (by omega)
    have q := hEv.2.2.2 k hk
    exact ⟨a0.trans q.1, a1.trans q.2.1, q.2.2⟩
  · have a0 := cb k 0 hk (by omega)
    have a1 := cb k 1 hk (by omega)
    have a2 := cb k 2 hk (by omega)
    have q := hBo.2.2.2 k hk
    exact ⟨a0.trans q.1, a1.trans q.2.1, a2.trans q.2.2.1, q.2.2.2⟩
theorem become_X2 {n : Int} {g nu im : Nat → Int} {sh : Int} {sc : Nat → Int} {eh : Int} {ec : Nat → Int} {bh : Int} {bc : Nat → Int} {m : Int} {far nb be : Nat → Int} {s : Int} {sS sW : Nat → Int} {e : Int} {eW eB : Nat → Int} {b : Int} {b1 b2 b3 : Nat → Int} (H : RSet n g nu im sh sc eh ec bh bc m far nb be s sS sW e eW eB b b1 b2 b3) (y0 y1 y2 y3 : Int) (Y0 Y1 Y2 Y3 Y4 Y5 : Nat → Int) : ∃ g' nu' im' sc' ec' bc', f_X2_become y0 Y0 Y1 Y2 4 y1 Y3 8 y2 Y4 8 y3 Y5 n g nu im sh sc eh ec bh bc = some (n, g', nu', im', sh, sc', eh, ec', bh, bc') ∧ RSet n g' nu' im' sh sc' eh ec' bh bc' m far nb be s sS sW e eW eB b b1 b2 b3 := by
  have hS := H.2.2.2.1
  have hE := H.2.2.2.2.1
  have hB := H.2.2.2.2.2
  obtain ⟨g', q1, q2⟩ := become_X4 (s := y0) (m := n) (g := Y0) (d := g)
  obtain ⟨sc', r1, r2⟩ := become_X1 (n := 12) (m := 4) (s := y1) (h := sh) (c := Y3) (d := sc) hS.2.1 hS.2.2.1 (by omega) (by omega) (by omega)
  obtain ⟨ec', s1, s2⟩ := become_X1 (n := 24) (m := 8) (s := y2) (h := eh) (c := Y4) (d := ec) hE.2.1 hE.2.2.1 (by omega) (by omega) (by omega)
  obtain ⟨bc', t1, t2⟩ := become_X1 (n := 24) (m := 8) (s := y3) (h := bh) (c := Y5) (d := bc) hB.2.1 hB.2.2.1 (by omega) (by omega) (by omega)
  have e5 : cpyOk 0 0 5 5 5 = true := by decide +kernel
  refine ⟨g', va_cpy nu Y1 (ix 0) (ix 0) (ix 5), va_cpy im Y2 (ix 0) (ix 0) (ix 5), sc', ec', bc', ?_, RSet_copy H q2 (fun k hk => ?_) (fun k hk => ?_) r2 s2 t2⟩
  · unfold f_X2_become
    rw [q1, bd2_s, grd_s e5, grd_s e5, r1, bd2_s, s1, bd2_s, t1, bd2_s]
  · show va_cpy nu Y1 0 0 5 k = nu k
    rw [cpy_at, if_pos hk]
  · show va_cpy im Y2 0 0 5 k = im k
    rw [cpy_at, if_pos hk]
