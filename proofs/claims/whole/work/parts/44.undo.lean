/-! PURE PART: undo -/
theorem lq6_P {A1 A2 A3 A4 A5 A6 α : Type} {f : (A1 → A2 → A3 → A4 → A5 → A6 → Option α) → A1 → A2 → A3 → A4 → A5 → A6 → Option α} (I : Nat → A1 → A2 → A3 → A4 → A5 → A6 → Prop) (P : Option α → Prop) (b : Nat) (hs : ∀ k, k < b → ∀ a1 a2 a3 a4 a5 a6, I k a1 a2 a3 a4 a5 a6 → ∀ nx, (∀ c1 c2 c3 c4 c5 c6, I (k + 1) c1 c2 c3 c4 c5 c6 → P (nx c1 c2 c3 c4 c5 c6)) → P (f nx a1 a2 a3 a4 a5 a6)) (he : ∀ a1 a2 a3 a4 a5 a6, I b a1 a2 a3 a4 a5 a6 → ∀ nx, P (f nx a1 a2 a3 a4 a5 a6)) : ∀ (N k : Nat) (a1 : A1) (a2 : A2) (a3 : A3) (a4 : A4) (a5 : A5) (a6 : A6), I k a1 a2 a3 a4 a5 a6 → k ≤ b → b - k < N → P (lq6 f N a1 a2 a3 a4 a5 a6)
  | 0, _, _, _, _, _, _, _, _, _, h => absurd h (Nat.not_lt_zero _)
  | N + 1, k, a1, a2, a3, a4, a5, a6, hI, hk, h => by
    show P (f (lq6 f N) a1 a2 a3 a4 a5 a6)
    rcases Nat.lt_or_eq_of_le hk with q | q
    · exact hs k q a1 a2 a3 a4 a5 a6 hI _ (fun c1 c2 c3 c4 c5 c6 hc => lq6_P I P b hs he N (k + 1) c1 c2 c3 c4 c5 c6 hc q (by omega))
    · subst q
      exact he _ _ _ _ _ _ hI _
theorem undo_X9 {n s e b r : Int} {far nb be sS sW eW eB b1 b2 b3 J : Nat → Int} (hg : ∀ f : Nat → Int, (∀ k : Nat, k < 25 → f k = J k) → f_X9_girth (J 83) f = some r) : ∃ (far' nb' be' sS' sW' eW' eB' b1' b2' b3' : Nat → Int), f_X9_undo n s e b 1 far nb be sS sW eW eB b1 b2 b3 J = some (r, J 83, J 84, J 85, J 86, far', nb', be', sS', sW', eW', eB', b1', b2', b3') ∧ (∀ k : Nat, k < 25 → far' k = J k) ∧ (∀ k : Nat, k < 5 → nb' k = J (25 + k)) ∧ (∀ k : Nat, k < 5 → be' k = J (30 + k)) ∧ (∀ k : Nat, k < 4 → sS' k = J (35 + k)) ∧ (∀ k : Nat, k < 4 → sW' k = J (39 + k)) ∧ (∀ k : Nat, k < 8 → eW' k = J (43 + k)) ∧ (∀ k : Nat, k < 8 → eB' k = J (51 + k)) ∧ (∀ k : Nat, k < 8 → b1' k = J (59 + k)) ∧ (∀ k : Nat, k < 8 → b2' k = J (67 + k)) ∧ (∀ k : Nat, k < 8 → b3' k = J (75 + k)) := by
  unfold f_X9_undo
  rw [if_neg (by decide)]
  refine lq2_P (I := fun k (v : Int) (I : Nat → Int) => v = (k : Int) ∧ ∀ j : Nat, j < k → I j = J j) (P := (fun u => ∃ (far' nb' be' sS' sW' eW' eB' b1' b2' b3' : Nat → Int), u = some (r, J 83, J 84, J 85, J 86, far', nb', be', sS', sW', eW', eB', b1', b2', b3') ∧ (∀ k : Nat, k < 25 → far' k = J k) ∧ (∀ k : Nat, k < 5 → nb' k = J (25 + k)) ∧ (∀ k : Nat, k < 5 → be' k = J (30 + k)) ∧ (∀ k : Nat, k < 4 → sS' k = J (35 + k)) ∧ (∀ k : Nat, k < 4 → sW' k = J (39 + k)) ∧ (∀ k : Nat, k < 8 → eW' k = J (43 + k)) ∧ (∀ k : Nat, k < 8 → eB' k = J (51 + k)) ∧ (∀ k : Nat, k < 8 → b1' k = J (59 + k)) ∧ (∀ k : Nat, k < 8 → b2' k = J (67 + k)) ∧ (∀ k : Nat, k < 8 → b3' k = J (75 + k)))) 25 (fun v hk a1 a2 hI nx hx => ?_) (fun a1 ofar hI nx => ?_) 300 0 0 far ⟨rfl, fun j hj => absurd hj (Nat.not_lt_zero _)⟩ (by omega) (by omega)
  · obtain ⟨rfl, t⟩ := hI
    have f1 : iin (v : Int) 25 = true := iin_t (by omega) (by omega) (by omega)
    have f2 : iin (v : Int) 88 = true := iin_t (by omega) (by omega) (by omega)
    rw [ltT (a := (v : Int)) (b := 25) (by omega) (by omega) (by omega) (by omega) (by omega), if_pos rfl, grd_s f2, lv, grd_s f1, ix_nat (show v < 2147483648 by omega)]
    refine hx _ _ ⟨by omega, fun j hj => ?_⟩
    by_cases c : j = v
    · subst c
      rw [up_eq]
    · rw [up_ne _ _ c]
      exact t j (by omega)
  obtain ⟨rfl, t0⟩ := hI
  rw [ltF (a := ((25 : Nat) : Int)) (b := 25) (by omega) (by omega) (by omega) (by omega) (by omega), if_neg (by decide)]
  clear nx
  refine lq3_P (I := fun m (v : Int) (znb zbe : Nat → Int) => v = (m : Int) ∧ (∀ k : Nat, k < m → znb k = J (25 + k)) ∧ (∀ k : Nat, k < m → zbe k = J (30 + k))) (P := (fun u => ∃ (far' nb' be' sS' sW' eW' eB' b1' b2' b3' : Nat → Int), u = some (r, J 83, J 84, J 85, J 86, far', nb', be', sS', sW', eW', eB', b1', b2', b3') ∧ (∀ k : Nat, k < 25 → far' k = J k) ∧ (∀ k : Nat, k < 5 → nb' k = J (25 + k)) ∧ (∀ k : Nat, k < 5 → be' k = J (30 + k)) ∧ (∀ k : Nat, k < 4 → sS' k = J (35 + k)) ∧ (∀ k : Nat, k < 4 → sW' k = J (39 + k)) ∧ (∀ k : Nat, k < 8 → eW' k = J (43 + k)) ∧ (∀ k : Nat, k < 8 → eB' k = J (51 + k)) ∧ (∀ k : Nat, k < 8 → b1' k = J (59 + k)) ∧ (∀ k : Nat, k < 8 → b2' k = J (67 + k)) ∧ (∀ k : Nat, k < 8 → b3' k = J (75 + k)))) 5 (fun v hk w1 ynb ybe hI nx hx => ?_) (fun w1 onb obe hI nx => ?_) 300 0 0 nb be ⟨rfl, fun k hk => absurd hk (Nat.not_lt_zero _), fun k hk => absurd hk (Nat.not_lt_zero _)⟩ (by omega) (by omega)
  · obtain ⟨rfl, tnb, tbe⟩ := hI
    have f1 : iin (v : Int) 5 = true := iin_t (by omega) (by omega) (by omega)
    have f25 : iin (25 + (v : Int)) 88 = true := iin_t (by omega) (by omega) (by omega)
    have i25 : ix (25 + (v : Int)) = 25 + v := by rw [ix_eq (by omega) (by omega)]; omega
    have f30 : iin (30 + (v : Int)) 88 = true := iin_t (by omega) (by omega) (by omega)
    have i30 : ix (30 + (v : Int)) = 30 + v := by rw [ix_eq (by omega) (by omega)]; omega
    rw [ltT (a := (v : Int)) (b := 5) (by omega) (by omega) (by omega) (by omega) (by omega), if_pos rfl, grd_s f25, lv, grd_s f1, grd_s f30, lv, grd_s f1, ix_nat (show v < 2147483648 by omega), i25, i30]
    refine hx _ _ _ ⟨by omega, fun k hk => ?_, fun k hk => ?_⟩
    · by_cases c : k = v
      · subst c
        rw [up_eq]
      · rw [up_ne _ _ c]
        exact tnb k (by omega)
    · by_cases c : k = v
      · subst c
        rw [up_eq]
      · rw [up_ne _ _ c]
        exact tbe k (by omega)
  obtain ⟨rfl, tnb, tbe⟩ := hI
  rw [ltF (a := ((5 : Nat) : Int)) (b := 5) (by omega) (by omega) (by omega) (by omega) (by omega), if_neg (by decide)]
  clear nx
  refine lq3_P (I := fun m (v : Int) (zsS zsW : Nat → Int) => v = (m : Int) ∧ (∀ k : Nat, k < m → zsS k = J (35 + k)) ∧ (∀ k : Nat, k < m → zsW k = J (39 + k))) (P := (fun u => ∃ (far' nb' be' sS' sW' eW' eB' b1' b2' b3' : Nat → Int), u = some (r, J 83, J 84, J 85, J 86, far', nb', be', sS', sW', eW', eB', b1', b2', b3') ∧ (∀ k : Nat, k < 25 → far' k = J k) ∧ (∀ k : Nat, k < 5 → nb' k = J (25 + k)) ∧ (∀ k : Nat, k < 5 → be' k = J (30 + k)) ∧ (∀ k : Nat, k < 4 → sS' k = J (35 + k)) ∧ (∀ k : Nat, k < 4 → sW' k = J (39 + k)) ∧ (∀ k : Nat, k < 8 → eW' k = J (43 + k)) ∧ (∀ k : Nat, k < 8 → eB' k = J (51 + k)) ∧ (∀ k : Nat, k < 8 → b1' k = J (59 + k)) ∧ (∀ k : Nat, k < 8 → b2' k = J (67 + k)) ∧ (∀ k : Nat, k < 8 → b3' k = J (75 + k)))) 4 (fun v hk w1 ysS ysW hI nx hx => ?_) (fun w1 osS osW hI nx => ?_) 300 0 0 sS sW ⟨rfl, fun k hk => absurd hk (Nat.not_lt_zero _), fun k hk => absurd hk (Nat.not_lt_zero _)⟩ (by omega) (by omega)
  · obtain ⟨rfl, tsS, tsW⟩ := hI
    have f1 : iin (v : Int) 4 = true := iin_t (by omega) (by omega) (by omega)
    have f35 : iin (35 + (v : Int)) 88 = true := iin_t (by omega) (by omega) (by omega)
    have i35 : ix (35 + (v : Int)) = 35 + v := by rw [ix_eq (by omega) (by omega)]; omega
    have f39 : iin (39 + (v : Int)) 88 = true := iin_t (by omega) (by omega) (by omega)
    have i39 : ix (39 + (v : Int)) = 39 + v := by rw [ix_eq (by omega) (by omega)]; omega
    rw [ltT (a := (v : Int)) (b := 4) (by omega) (by omega) (by omega) (by omega) (by omega), if_pos rfl, grd_s f35, lv, grd_s f1, grd_s f39, lv, grd_s f1, ix_nat (show v < 2147483648 by omega), i35, i39]
    refine hx _ _ _ ⟨by omega, fun k hk => ?_, fun k hk => ?_⟩
    · by_cases c : k = v
      · subst c
        rw [up_eq]
      · rw [up_ne _ _ c]
        exact tsS k (by omega)
    · by_cases c : k = v
      · subst c
        rw [up_eq]
      · rw [up_ne _ _ c]
        exact tsW k (by omega)
  obtain ⟨rfl, tsS, tsW⟩ := hI
  rw [ltF (a := ((4 : Nat) : Int)) (b := 4) (by omega) (by omega) (by omega) (by omega) (by omega), if_neg (by decide)]
  clear nx
  refine lq6_P (I := fun m (v : Int) (zeW zeB zb1 zb2 zb3 : Nat → Int) => v = (m : Int) ∧ (∀ k : Nat, k < m → zeW k = J (43 + k)) ∧ (∀ k : Nat, k < m → zeB k = J (51 + k)) ∧ (∀ k : Nat, k < m → zb1 k = J (59 + k)) ∧ (∀ k : Nat, k < m → zb2 k = J (67 + k)) ∧ (∀ k : Nat, k < m → zb3 k = J (75 + k))) (P := (fun u => ∃ (far' nb' be' sS' sW' eW' eB' b1' b2' b3' : Nat → Int), u = some (r, J 83, J 84, J 85, J 86, far', nb', be', sS', sW', eW', eB', b1', b2', b3') ∧ (∀ k : Nat, k < 25 → far' k = J k) ∧ (∀ k : Nat, k < 5 → nb' k = J (25 + k)) ∧ (∀ k : Nat, k < 5 → be' k = J (30 + k)) ∧ (∀ k : Nat, k < 4 → sS' k = J (35 + k)) ∧ (∀ k : Nat, k < 4 → sW' k = J (39 + k)) ∧ (∀ k : Nat, k < 8 → eW' k = J (43 + k)) ∧ (∀ k : Nat, k < 8 → eB' k = J (51 + k)) ∧ (∀ k : Nat, k < 8 → b1' k = J (59 + k)) ∧ (∀ k : Nat, k < 8 → b2' k = J (67 + k)) ∧ (∀ k : Nat, k < 8 → b3' k = J (75 + k)))) 8 (fun v hk w1 yeW yeB yb1 yb2 yb3 hI nx hx => ?_) (fun w1 oeW oeB ob1 ob2 ob3 hI nx => ?_) 300 0 0 eW eB b1 b2 b3 ⟨rfl, fun k hk => absurd hk (Nat.not_lt_zero _), fun k hk => absurd hk (Nat.not_lt_zero _), fun k hk => absurd hk (Nat.not_lt_zero _), fun k hk => absurd hk (Nat.not_lt_zero _), fun k hk => absurd hk (Nat.not_lt_zero _)⟩ (by omega) (by omega)
  · obtain ⟨rfl, teW, teB, tb1, tb2, tb3⟩ := hI
    have f1 : iin (v : Int) 8 = true := iin_t (by omega) (by omega) (by omega)
    have f43 : iin (43 + (v : Int)) 88 = true := iin_t (by omega) (by omega) (by omega)
    have i43 : ix (43 + (v : Int)) = 43 + v := by rw [ix_eq (by omega) (by omega)]; omega
    have f51 : iin (51 + (v : Int)) 88 = true := iin_t (by omega) (by omega) (by omega)
    have i51 : ix (51 + (v : Int)) = 51 + v := by rw [ix_eq (by omega) (by omega)]; omega
    have f59 : iin (59 + (v : Int)) 88 = true := iin_t (by omega) (by omega) (by omega)
    have i59 : ix (59 + (v : Int)) = 59 + v := by rw [ix_eq (by omega) (by omega)]; omega
    have f67 : iin (67 + (v : Int)) 88 = true := iin_t (by omega) (by omega) (by omega)
    have i67 : ix (67 + (v : Int)) = 67 + v := by rw [ix_eq (by omega) (by omega)]; omega
    have f75 : iin (75 + (v : Int)) 88 = true := iin_t (by omega) (by omega) (by omega)
    have i75 : ix (75 + (v : Int)) = 75 + v := by rw [ix_eq (by omega) (by omega)]; omega
    rw [ltT (a := (v : Int)) (b := 8) (by omega) (by omega) (by omega) (by omega) (by omega), if_pos rfl, grd_s f43, lv, grd_s f1, grd_s f51, lv, grd_s f1, grd_s f59, lv, grd_s f1, grd_s f67, lv, grd_s f1, grd_s f75, lv, grd_s f1, ix_nat (show v < 2147483648 by omega), i43, i51, i59, i67, i75]
    refine hx _ _ _ _ _ _ ⟨by omega, fun k hk => ?_, fun k hk => ?_, fun k hk => ?_, fun k hk => ?_, fun k hk => ?_⟩
    · by_cases c : k = v
      · subst c
        rw [up_eq]
      · rw [up_ne _ _ c]
        exact teW k (by omega)
    · by_cases c : k = v
      · subst c
        rw [up_eq]
      · rw [up_ne _ _ c]
        exact teB k (by omega)
    · by_cases c : k = v
      · subst c
        rw [up_eq]
      · rw [up_ne _ _ c]
        exact tb1 k (by omega)
    · by_cases c : k = v
      · subst c
        rw [up_eq]
      · rw [up_ne _ _ c]
        exact tb2 k (by omega)
    · by_cases c : k = v
      · subst c
        rw [up_eq]
      · rw [up_ne _ _ c]
        exact tb3 k (by omega)
  obtain ⟨rfl, teW, teB, tb1, tb2, tb3⟩ := hI
  rw [ltF (a := ((8 : Nat) : Int)) (b := 8) (by omega) (by omega) (by omega) (by omega) (by omega), if_neg (by decide)]
  clear nx
  rw [grd_s (show iin 83 88 = true by decide +kernel), lv, (show ix 83 = 83 by decide +kernel), grd_s (show iin 84 88 = true by decide +kernel), lv, (show ix 84 = 84 by decide +kernel), grd_s (show iin 85 88 = true by decide +kernel), lv, (show ix 85 = 85 by decide +kernel), grd_s (show iin 86 88 = true by decide +kernel), lv, (show ix 86 = 86 by decide +kernel), hg ofar t0, bd1_s]
  exact ⟨ofar, onb, obe, osS, osW, oeW, oeB, ob1, ob2, ob3, rfl, t0, tnb, tbe, tsS, tsW, teW, teB, tb1, tb2, tb3⟩
theorem st_31 {x : Nat → Int} {X : Nat → Nat → Int} {kx : Nat → Int64} {it : Nat → Nat → Int64} {F : Nat → Int} {B : Nat → Nat → Int} {cl bt : Nat → Int64} (h : Rel x X kx it F B cl bt) : ∃ (r : Int) (o0 : Int) (o1 : Nat → Int) (o2 : Nat → Int) (o3 : Nat → Int) (o4 : Int) (o5 : Nat → Int) (o6 : Int) (o7 : Nat → Int) (o8 : Int) (o9 : Nat → Int) (o0' : Int) (o1' : Int) (o2' : Int) (o3' : Int) (o4' : Nat → Int) (o5' : Nat → Int) (o6' : Nat → Int) (o7' : Nat → Int) (o8' : Nat → Int) (o9' : Nat → Int) (o10' : Nat → Int) (o11' : Nat → Int) (o12' : Nat → Int) (o13' : Nat → Int), f_X8_undo (x 0) (x 1) (X 0) (X 1) (X 2) (x 2) (x 3) (X 3) (x 4) (x 5) (X 4) (x 6) (x 7) (X 5) (x 8) (X 6) (X 7) (X 8) (x 10) (X 9) (x 12) (X 10) (x 14) (X 11) = some (r, o0, o1, o2, o3, o4, o5, o6, o7, o8, o9) ∧ f_X9_undo (F 0) (F 4) (F 7) (F 10) (F 33) (B 1) (B 2) (B 3) (B 5) (B 6) (B 8) (B 9) (B 11) (B 12) (B 13) (B 34) = some (r, o0', o1', o2', o3', o4', o5', o6', o7', o8', o9', o10', o11', o12', o13') ∧ Rel (up (up (up (up x 1 o0) 3 o4) 5 o6) 7 o8) (up (up (up (up (up (up X 0 o1) 1 o2) 2 o3) 3 o5) 4 o7) 5 o9) kx it (up (up (up (up F 0 o0') 4 o1') 7 o2') 10 o3') (up (up (up (up (up (up (up (up (up (up B 1 o4') 2 o5') 3 o6') 5 o7') 6 o8') 8 o9') 9 o10') 11 o11') 12 o12') 13 o13') cl bt := by
  obtain ⟨hR, hC, hI, hSp, hHu, hT, hTa⟩ := h
  obtain ⟨k1, k2, k3, k4, k5, k6⟩ := id hC
  obtain ⟨i1, i2, i3⟩ := id hI
  rcases i1 with z | z
  · refine ⟨-3, x 1, X 0, X 1, X 2, x 3, X 3, x 5, X 4, x 7, X 5, F 0, F 4, F 7, F 10, B 1, B 2, B 3, B 5, B 6, B 8, B 9, B 11, B 12, B 13, ?_, ?_, hR, hC, hI, hSp, hHu, hT, hTa⟩
    · unfold f_X8_undo
      rw [z]
      rfl
    · unfold f_X9_undo
      rw [i2, z]
      rfl
  · have hS := i3 z
    obtain ⟨g', nu', im', sc', ec', bc', a1, a2⟩ := become_X2 hS (x 1) (x 3) (x 5) (x 7) (X 0) (X 1) (X 2) (X 3) (X 4) (X 5)
    obtain ⟨⟨e0, h3, h5, tg, tf, ag⟩, -⟩ := id a2
    obtain ⟨r, g1, g2⟩ := girth_same h3 h5 tf ag
    have gg : ∀ f : Nat → Int, (∀ k : Nat, k < 25 → f k = B 34 k) → f_X9_girth (B 34 83) f = some r := by
      intro f hf
      obtain ⟨r', g1', g2'⟩ := girth_same (g := g') (far := f) h3 h5 (Tb_copy tf hf) (fun i j hi hj => by rw [hf _ (by omega)]; exact ag i j hi hj)
      rw [g1] at g1'
      rw [e0, g2', ← Option.some.inj g1']
    obtain ⟨wfar, wnb, wbe, wsS, wsW, weW, weB, wb1, wb2, wb3, b1, cfar, cnb, cbe, csS, csW, ceW, ceB, cb1, cb2, cb3⟩ := undo_X9 (n := F 0) (s := F 4) (e := F 7) (b := F 10) (far := B 1) (nb := B 2) (be := B 3) (sS := B 5) (sW := B 6) (eW := B 8) (eB := B 9) (b1 := B 11) (b2 := B 12) (b3 := B 13) gg
    refine ⟨r, x 8, g', nu', im', x 10, sc', x 12, ec', x 14, bc', B 34 83, B 34 84, B 34 85, B 34 86, wfar, wnb, wbe, wsS, wsW, weW, weB, wb1, wb2, wb3, ?_, ?_, RSet_ref a2 cfar cnb cbe csS csW ceW ceB cb1 cb2 cb3, hC, hI, hSp, hHu, hT, hTa⟩
    · unfold f_X8_undo
      rw [z, if_neg (by decide), k1, k2, k3, a1]
      show bd1 (f_X4_girth (x 8) g') _ = _
      rw [g1, bd1_s]
    · rw [i2, z]
      exact b1
