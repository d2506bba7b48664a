/-! PURE PART: the image -/
def iT (far nb be sS sW eW eB b1 b2 b3 : Nat → Int) (k : Nat) : Int :=
  if k < 25 then far k else if k < 30 then nb (k - 25) else if k < 35 then be (k - 30) else if k < 39 then sS (k - 35) else if k < 43 then sW (k - 39) else if k < 51 then eW (k - 43) else if k < 59 then eB (k - 51) else if k < 67 then b1 (k - 59) else if k < 75 then b2 (k - 67) else b3 (k - 75)
theorem iT_far {far nb be sS sW eW eB b1 b2 b3 : Nat → Int} {k : Nat} (h : k < 25) : iT far nb be sS sW eW eB b1 b2 b3 (k) = far k := by
  unfold iT
  rw [if_pos (by omega)]
theorem iT_nb {far nb be sS sW eW eB b1 b2 b3 : Nat → Int} {k : Nat} (h : k < 5) : iT far nb be sS sW eW eB b1 b2 b3 (25 + k) = nb k := by
  unfold iT
  rw [if_neg (by omega), if_pos (by omega)]
  exact congrArg nb (by omega)
theorem iT_be {far nb be sS sW eW eB b1 b2 b3 : Nat → Int} {k : Nat} (h : k < 5) : iT far nb be sS sW eW eB b1 b2 b3 (30 + k) = be k := by
  unfold iT
  rw [if_neg (by omega), if_neg (by omega), if_pos (by omega)]
  exact congrArg be (by omega)
theorem iT_sS {far nb be sS sW eW eB b1 b2 b3 : Nat → Int} {k : Nat} (h : k < 4) : iT far nb be sS sW eW eB b1 b2 b3 (35 + k) = sS k := by
  unfold iT
  rw [if_neg (by omega), if_neg (by omega), if_neg (by omega), if_pos (by omega)]
  exact congrArg sS (by omega)
theorem iT_sW {far nb be sS sW eW eB b1 b2 b3 : Nat → Int} {k : Nat} (h : k < 4) : iT far nb be sS sW eW eB b1 b2 b3 (39 + k) = sW k := by
  unfold iT
  rw [if_neg (by omega), if_neg (by omega), if_neg (by omega), if_neg (by omega), if_pos (by omega)]
  exact congrArg sW (by omega)
theorem iT_eW {far nb be sS sW eW eB b1 b2 b3 : Nat → Int} {k : Nat} (h : k < 8) : iT far nb be sS sW eW eB b1 b2 b3 (43 + k) = eW k := by
  unfold iT
  rw [if_neg (by omega), if_neg (by omega), if_neg (by omega), if_neg (by omega), if_neg (by omega), if_pos (by omega)]
  exact congrArg eW (by omega)
theorem iT_eB {far nb be sS sW eW eB b1 b2 b3 : Nat → Int} {k : Nat} (h : k < 8) : iT far nb be sS sW eW eB b1 b2 b3 (51 + k) = eB k := by
  unfold iT
  rw [if_neg (by omega), if_neg (by omega), if_neg (by omega), if_neg (by omega), if_neg (by omega), if_neg (by omega), if_pos (by omega)]
  exact congrArg eB (by omega)
theorem iT_b1 {far nb be sS sW eW eB b1 b2 b3 : Nat → Int} {k : Nat} (h : k < 8) : iT far nb be sS sW eW eB b1 b2 b3 (59 + k) = b1 k := by
  unfold iT
  rw [if_neg (by omega), if_neg (by omega), if_neg (by omega), if_neg (by omega), if_neg (by omega), if_neg (by omega), if_neg (by omega), if_pos (by omega)]
  exact congrArg b1 (by omega)
theorem iT_b2 {far nb be sS sW eW eB b1 b2 b3 : Nat → Int} {k : Nat} (h : k < 8) : iT far nb be sS sW eW eB b1 b2 b3 (67 + k) = b2 k := by
  unfold iT
  rw [if_neg (by omega), if_neg (by omega), if_neg (by omega), if_neg (by omega), if_neg (by omega), if_neg (by omega), if_neg (by omega), if_neg (by omega), if_pos (by omega)]
  exact congrArg b2 (by omega)
theorem iT_b3 {far nb be sS sW eW eB b1 b2 b3 : Nat → Int} {k : Nat} (h : k < 8) : iT far nb be sS sW eW eB b1 b2 b3 (75 + k) = b3 k := by
  unfold iT
  rw [if_neg (by omega), if_neg (by omega), if_neg (by omega), if_neg (by omega), if_neg (by omega), if_neg (by omega), if_neg (by omega), if_neg (by omega), if_neg (by omega)]
  exact congrArg b3 (by omega)
theorem image_X9 {n s e b hi r : Int} {far nb be sS sW eW eB b1 b2 b3 J : Nat → Int} (hg : f_X9_girth n far = some r) : ∃ I : Nat → Int, f_X9_image n s e b hi far nb be sS sW eW eB b1 b2 b3 J = some (r, (1 : Int), I) ∧ (∀ k : Nat, k < 83 → I k = iT far nb be sS sW eW eB b1 b2 b3 k) ∧ I 83 = n ∧ I 84 = s ∧ I 85 = e ∧ I 86 = b := by
  unfold f_X9_image
  rw [grd_s (show isB 1 = true from rfl)]
  refine lq2_P (I := fun k (v : Int) (I : Nat → Int) => v = (k : Int) ∧ ∀ j : Nat, j < k → I j = iT far nb be sS sW eW eB b1 b2 b3 j) (P := (fun u => ∃ I : Nat → Int, u = some (r, (1 : Int), I) ∧ (∀ k : Nat, k < 83 → I k = iT far nb be sS sW eW eB b1 b2 b3 k) ∧ I 83 = n ∧ I 84 = s ∧ I 85 = e ∧ I 86 = b)) 25 (fun v hk a1 a2 hI nx hx => ?_) (fun a1 a2 hI nx => ?_) 300 0 0 J ⟨rfl, fun j hj => absurd hj (Nat.not_lt_zero _)⟩ (by omega) (by omega)
  · obtain ⟨rfl, t⟩ := hI
    have f1 : iin (v : Int) 25 = true := iin_t (by omega) (by omega) (by omega)
    have f2 : iin (v : Int) 88 = true := iin_t (by omega) (by omega) (by omega)
    rw [ltT (a := (v : Int)) (b := 25) (by omega) (by omega) (by omega) (by omega) (by omega), if_pos rfl, grd_s f1, lv, grd_s f2, ix_nat (show v < 2147483648 by omega)]
    refine hx _ _ ⟨by omega, fun j hj => ?_⟩
    by_cases c : j = v
    · subst c
      rw [up_eq, iT_far hk]
    · rw [up_ne _ _ c]
      exact t j (by omega)
  obtain ⟨rfl, t0⟩ := hI
  rw [ltF (a := ((25 : Nat) : Int)) (b := 25) (by omega) (by omega) (by omega) (by omega) (by omega), if_neg (by decide)]
  clear nx
  refine lq2_P (I := fun m (v : Int) (I : Nat → Int) => v = (m : Int) ∧ ∀ k : Nat, k < 25 ∨ (25 ≤ k ∧ k < 25 + m) ∨ (30 ≤ k ∧ k < 30 + m) → I k = iT far nb be sS sW eW eB b1 b2 b3 k) (P := (fun u => ∃ I : Nat → Int, u = some (r, (1 : Int), I) ∧ (∀ k : Nat, k < 83 → I k = iT far nb be sS sW eW eB b1 b2 b3 k) ∧ I 83 = n ∧ I 84 = s ∧ I 85 = e ∧ I 86 = b)) 5 (fun v hk w1 w2 hI nx hx => ?_) (fun w1 a2_1 hI nx => ?_) 300 0 0 a2 ⟨rfl, fun k hk => t0 k (by omega)⟩ (by omega) (by omega)
  · obtain ⟨rfl, t⟩ := hI
    have f1 : iin (v : Int) 5 = true := iin_t (by omega) (by omega) (by omega)
    have f25 : iin (25 + (v : Int)) 88 = true := iin_t (by omega) (by omega) (by omega)
    have i25 : ix (25 + (v : Int)) = 25 + v := by rw [ix_eq (by omega) (by omega)]; omega
    have f30 : iin (30 + (v : Int)) 88 = true := iin_t (by omega) (by omega) (by omega)
    have i30 : ix (30 + (v : Int)) = 30 + v := by rw [ix_eq (by omega) (by omega)]; omega
    rw [ltT (a := (v : Int)) (b := 5) (by omega) (by omega) (by omega) (by omega) (by omega), if_pos rfl, grd_s f1, lv, grd_s f25, grd_s f1, lv, grd_s f30, ix_nat (show v < 2147483648 by omega), i25, i30]
    refine hx _ _ ⟨by omega, fun k hk => ?_⟩
    by_cases c30 : k = 30 + v
    · rw [c30, up_eq, iT_be (by omega)]
    rw [up_ne _ _ c30]
    by_cases c25 : k = 25 + v
    · rw [c25, up_eq, iT_nb (by omega)]
    rw [up_ne _ _ c25]
    exact t k (by omega)
  obtain ⟨rfl, t1⟩ := hI
  rw [ltF (a := ((5 : Nat) : Int)) (b := 5) (by omega) (by omega) (by omega) (by omega) (by omega), if_neg (by decide)]
  clear nx
  refine lq2_P (I := fun m (v : Int) (I : Nat → Int) => v = (m : Int) ∧ ∀ k : Nat, k < 35 ∨ (35 ≤ k ∧ k < 35 + m) ∨ (39 ≤ k ∧ k < 39 + m) → I k = iT far nb be sS sW eW eB b1 b2 b3 k) (P := (fun u => ∃ I : Nat → Int, u = some (r, (1 : Int), I) ∧ (∀ k : Nat, k < 83 → I k = iT far nb be sS sW eW eB b1 b2 b3 k) ∧ I 83 = n ∧ I 84 = s ∧ I 85 = e ∧ I 86 = b)) 4 (fun v hk w1 w2 hI nx hx => ?_) (fun w1 a2_2 hI nx => ?_) 300 0 0 a2_1 ⟨rfl, fun k hk => t1 k (by omega)⟩ (by omega) (by omega)
  · obtain ⟨rfl, t⟩ := hI
    have f1 : iin (v : Int) 4 = true := iin_t (by omega) (by omega) (by omega)
    have f35 : iin (35 + (v : Int)) 88 = true := iin_t (by omega) (by omega) (by omega)
    have i35 : ix (35 + (v : Int)) = 35 + v := by rw [ix_eq (by omega) (by omega)]; omega
    have f39 : iin (39 + (v : Int)) 88 = true := iin_t (by omega) (by omega) (by omega)
    have i39 : ix (39 + (v : Int)) = 39 + v := by rw [ix_eq (by omega) (by omega)]; omega
    rw [ltT (a := (v : Int)) (b := 4) (by omega) (by omega) (by omega) (by omega) (by omega), if_pos rfl, grd_s f1, lv, grd_s f35, grd_s f1, lv, grd_s f39, ix_nat (show v < 2147483648 by omega), i35, i39]
    refine hx _ _ ⟨by omega, fun k hk => ?_⟩
    by_cases c39 : k = 39 + v
    · rw [c39, up_eq, iT_sW (by omega)]
    rw [up_ne _ _ c39]
    by_cases c35 : k = 35 + v
    · rw [c35, up_eq, iT_sS (by omega)]
    rw [up_ne _ _ c35]
    exact t k (by omega)
  obtain ⟨rfl, t2⟩ := hI
  rw [ltF (a := ((4 : Nat) : Int)) (b := 4) (by omega) (by omega) (by omega) (by omega) (by omega), if_neg (by decide)]
  clear nx
  refine lq2_P (I := fun m (v : Int) (I : Nat → Int) => v = (m : Int) ∧ ∀ k : Nat, k < 43 ∨ (43 ≤ k ∧ k < 43 + m) ∨ (51 ≤ k ∧ k < 51 + m) ∨ (59 ≤ k ∧ k < 59 + m) ∨ (67 ≤ k ∧ k < 67 + m) ∨ (75 ≤ k ∧ k < 75 + m) → I k = iT far nb be sS sW eW eB b1 b2 b3 k) (P := (fun u => ∃ I : Nat → Int, u = some (r, (1 : Int), I) ∧ (∀ k : Nat, k < 83 → I k = iT far nb be sS sW eW eB b1 b2 b3 k) ∧ I 83 = n ∧ I 84 = s ∧ I 85 = e ∧ I 86 = b)) 8 (fun v hk w1 w2 hI nx hx => ?_) (fun w1 a2_3 hI nx => ?_) 300 0 0 a2_2 ⟨rfl, fun k hk => t2 k (by omega)⟩ (by omega) (by omega)
  · obtain ⟨rfl, t⟩ := hI
    have f1 : iin (v : Int) 8 = true := iin_t (by omega) (by omega) (by omega)
    have f43 : iin (43 + (v : Int)) 88 = true := iin_t (by omega) (by omega) (by omega)
    have i43 : ix (43 + (v : Int)) = 43 + v := by rw [ix_eq (by omega) (by omega)]; omega
    have f51 : iin (51 + (v : Int)) 88 = true := iin_t (by omega) (by omega) (by omega)
    have i51 : ix (51 + (v : Int)) = 51 + v := by rw [ix_eq (by omega) (by omega)]; omega
    have f59 : iin (59 + (v : Int)) 88 = true := iin_t (by omega) (by omega) (by omega)
    have i59 : ix (59 + (v : Int)) = 59 + v := by rw [ix_eq (by omega) (by omega)]; omega
    have f67 : iin (67 + (v : Int)) 88 = true := iin_t (by omega) (by omega) (by omega)
    have i67 : ix (67 + (v : Int)) = 67 + v := by rw [ix_eq (by omega) (by omega)]; omega
    have f75 : iin (75 + (v : Int)) 88 = true := iin_t (by omega) (by omega) (by omega)
    have i75 : ix (75 + (v : Int)) = 75 + v := by rw [ix_eq (by omega) (by omega)]; omega
    rw [ltT (a := (v : Int)) (b := 8) (by omega) (by omega) (by omega) (by omega) (by omega), if_pos rfl, grd_s f1, lv, grd_s f43, grd_s f1, lv, grd_s f51, grd_s f1, lv, grd_s f59, grd_s f1, lv, grd_s f67, grd_s f1, lv, grd_s f75, ix_nat (show v < 2147483648 by omega), i43, i51, i59, i67, i75]
    refine hx _ _ ⟨by omega, fun k hk => ?_⟩
    by_cases c75 : k = 75 + v
    · rw [c75, up_eq, iT_b3 (by omega)]
    rw [up_ne _ _ c75]
    by_cases c67 : k = 67 + v
    · rw [c67, up_eq, iT_b2 (by omega)]
    rw [up_ne _ _ c67]
    by_cases c59 : k = 59 + v
    · rw [c59, up_eq, iT_b1 (by omega)]
    rw [up_ne _ _ c59]
    by_cases c51 : k = 51 + v
    · rw [c51, up_eq, iT_eB (by omega)]
    rw [up_ne _ _ c51]
    by_cases c43 : k = 43 + v
    · rw [c43, up_eq, iT_eW (by omega)]
    rw [up_ne _ _ c43]
    exact t k (by omega)
  obtain ⟨rfl, t3⟩ := hI
  rw [ltF (a := ((8 : Nat) : Int)) (b := 8) (by omega) (by omega) (by omega) (by omega) (by omega), if_neg (by decide)]
  clear nx
  rw [grd_s (show iin 83 88 = true by decide +kernel), grd_s (show iin 84 88 = true by decide +kernel), grd_s (show iin 85 88 = true by decide +kernel), grd_s (show iin 86 88 = true by decide +kernel), hg, bd1_s]
  refine ⟨_, rfl, fun k hk => ?_, ?_, ?_, ?_, ?_⟩
  · show up (up (up (up a2_3 83 n) 84 s) 85 e) 86 b k = _
    rw [up_ne _ _ (by omega), up_ne _ _ (by omega), up_ne _ _ (by omega), up_ne _ _ (by omega)]
    exact t3 k (by omega)
  · rfl
  · rfl
  · rfl
  · rfl
