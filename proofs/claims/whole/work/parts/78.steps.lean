/-- points -/
theorem st_0 {x : Nat → Int} {X : Nat → Nat → Int} {kx : Nat → Int64} {it : Nat → Nat → Int64} {F : Nat → Int} {B : Nat → Nat → Int} {cl bt : Nat → Int64} (h : Rel x X kx it F B cl bt) (p1 : Int) : ∃ (r : Int) (o0 : Int) (o1 : Nat → Int) (o2 : Nat → Int) (o3 : Nat → Int) (o0' : Int) (o1' : Nat → Int) (o2' : Nat → Int) (o3' : Nat → Int), f_X8_points p1 (x 1) (X 0) (X 1) (X 2) = some (r, o0, o1, o2, o3) ∧ f_X9_points p1 (F 0) (B 1) (B 2) (B 3) = some (r, o0', o1', o2', o3') ∧ Rel (up x 1 o0) (up (up (up X 0 o1) 1 o2) 2 o3) kx it (up F 0 o0') (up (up (up B 1 o1') 2 o2') 3 o3') cl bt := by
  sorry
/-- set -/
theorem st_1 {x : Nat → Int} {X : Nat → Nat → Int} {kx : Nat → Int64} {it : Nat → Nat → Int64} {F : Nat → Int} {B : Nat → Nat → Int} {cl bt : Nat → Int64} (h : Rel x X kx it F B cl bt) (p1 : Int) (p2 : Int) (p3 : Int) : ∃ (r : Int) (o0 : Nat → Int) (o0' : Nat → Int), f_X8_set p1 p2 p3 (x 1) (X 0) = some (r, o0) ∧ f_X9_set p1 p2 p3 (F 0) (B 1) = some (r, o0') ∧ Rel x (up X 0 o0) kx it F (up B 1 o0') cl bt := by
  sorry
/-- shorten -/
theorem st_2 {x : Nat → Int} {X : Nat → Nat → Int} {kx : Nat → Int64} {it : Nat → Nat → Int64} {F : Nat → Int} {B : Nat → Nat → Int} {cl bt : Nat → Int64} (h : Rel x X kx it F B cl bt) : ∃ (r : Int) (o0 : Nat → Int) (o1 : Int) (o2 : Nat → Int) (o0' : Nat → Int) (o1' : Nat → Int), f_X8_shorten (x 1) (X 0) (x 15) (X 12) = some (r, o0, o1, o2) ∧ f_X9_shorten (F 0) (B 1) (B 20) = some (r, o0', o1') ∧ Rel (up x 15 o1) (up (up X 0 o0) 12 o2) kx it F (up (up B 1 o0') 20 o1') cl bt := by
  sorry
/-- function -/
theorem st_3 {x : Nat → Int} {X : Nat → Nat → Int} {kx : Nat → Int64} {it : Nat → Nat → Int64} {F : Nat → Int} {B : Nat → Nat → Int} {cl bt : Nat → Int64} (h : Rel x X kx it F B cl bt) (p1 : Int) (p2 : Int) : ∃ (r : Int) (o0 : Nat → Int) (o0' : Nat → Int), f_X8_function p1 p2 (x 1) (X 1) = some (r, o0) ∧ f_X9_function p1 p2 (F 0) (B 2) = some (r, o0') ∧ Rel x (up X 1 o0) kx it F (up B 2 o0') cl bt := by
  sorry
/-- least -/
theorem st_4 {x : Nat → Int} {X : Nat → Nat → Int} {kx : Nat → Int64} {it : Nat → Nat → Int64} {F : Nat → Int} {B : Nat → Nat → Int} {cl bt : Nat → Int64} (h : Rel x X kx it F B cl bt) (p1 : Int) (p2 : Int) : ∃ (r : Int) (o0 : Nat → Int) (o1 : Int) (o2 : Int) (o3 : Int) (o4 : Int) (o5 : Nat → Int) (o6 : Nat → Int) (o7 : Nat → Int64) (o8 : Nat → Int) (o0' : Int) (o1' : Nat → Int) (o2' : Nat → Int) (o3' : Nat → Int) (o4' : Nat → Int), f_X8_least p1 p2 (x 1) (X 0) (X 1) (x 19) (x 20) (x 21) (x 22) (X 16) (X 17) kx (X 18) = some (r, o0, o1, o2, o3, o4, o5, o6, o7, o8) ∧ f_X9_least p1 p2 (F 0) (F 23) (B 1) (B 2) (B 24) (B 25) (B 26) = some (r, o0', o1', o2', o3', o4') ∧ Rel (up (up (up (up x 19 o1) 20 o2) 21 o3) 22 o4) (up (up (up (up X 1 o0) 16 o5) 17 o6) 18 o8) o7 it (up F 23 o0') (up (up (up (up B 2 o1') 24 o2') 25 o3') 26 o4') cl bt := by
  sorry
/-- map -/
theorem st_5 {x : Nat → Int} {X : Nat → Nat → Int} {kx : Nat → Int64} {it : Nat → Nat → Int64} {F : Nat → Int} {B : Nat → Nat → Int} {cl bt : Nat → Int64} (h : Rel x X kx it F B cl bt) (p1 : Int) (p2 : Int) : ∃ (r : Int) (o0 : Nat → Int) (o0' : Nat → Int), f_X8_map p1 p2 (x 1) (X 2) = some (r, o0) ∧ f_X9_map p1 p2 (F 0) (B 3) = some (r, o0') ∧ Rel x (up X 2 o0) kx it F (up B 3 o0') cl bt := by
  sorry
/-- feed -/
theorem st_6 {x : Nat → Int} {X : Nat → Nat → Int} {kx : Nat → Int64} {it : Nat → Nat → Int64} {F : Nat → Int} {B : Nat → Nat → Int} {cl bt : Nat → Int64} (h : Rel x X kx it F B cl bt) (p1 : Int) : ∃ (r : Int) (o0 : Int) (o1 : Nat → Int) (o0' : Int) (o1' : Nat → Int), f_X8_feed p1 (x 23) (X 19) = some (r, o0, o1) ∧ f_X9_feed p1 (F 15) (B 14) = some (r, o0', o1') ∧ Rel (up x 23 o0) (up X 19 o1) kx it (up F 15 o0') (up B 14 o1') cl bt := by
  sorry
/-- read -/
theorem st_7 {x : Nat → Int} {X : Nat → Nat → Int} {kx : Nat → Int64} {it : Nat → Nat → Int64} {F : Nat → Int} {B : Nat → Nat → Int} {cl bt : Nat → Int64} (h : Rel x X kx it F B cl bt) : ∃ (r : Int) (o0 : Int) (o1 : Nat → Int) (o2 : Nat → Int) (o3 : Nat → Int) (o4 : Int) (o5 : Int) (o6 : Nat → Int) (o0' : Int) (o1' : Int) (o2' : Int) (o3' : Int) (o4' : Nat → Int) (o5' : Nat → Int) (o6' : Nat → Int) (o7' : Nat → Int) (o8' : Nat → Int) (o9' : Nat → Int) (o10' : Nat → Int) (o11' : Nat → Int), f_X8_read (x 1) (X 0) (X 1) (X 2) (x 23) (x 24) (X 19) (X 20) = some (r, o0, o1, o2, o3, o4, o5, o6) ∧ f_X9_read (F 0) (F 15) (F 27) (F 28) (B 1) (B 2) (B 3) (B 14) (B 20) (B 29) (B 30) (B 31) (B 32) = some (r, o0', o1', o2', o3', o4', o5', o6', o7', o8', o9', o10', o11') ∧ Rel (up (up (up x 1 o0) 23 o4) 24 o5) (up (up (up (up X 0 o1) 1 o2) 2 o3) 20 o6) kx it (up (up (up (up F 0 o0') 15 o1') 27 o2') 28 o3') (up (up (up (up (up (up (up (up B 1 o4') 2 o5') 3 o6') 20 o7') 29 o8') 30 o9') 31 o10') 32 o11') cl bt := by
  sorry
/-- of -/
theorem st_8 {x : Nat → Int} {X : Nat → Nat → Int} {kx : Nat → Int64} {it : Nat → Nat → Int64} {F : Nat → Int} {B : Nat → Nat → Int} {cl bt : Nat → Int64} (h : Rel x X kx it F B cl bt) (p1 : Int) (p2 : Int) (p3 : Int) : ∃ (r : Int) (o0 : Int) (o1 : Nat → Int) (o2 : Int) (o3 : Int) (o4 : Int) (o5 : Nat → Int) (o6 : Nat → Int) (o7 : Nat → Int) (o0' : Nat → Int) (o1' : Nat → Int) (o2' : Nat → Int), f_X8_of p1 p2 p3 (x 1) (X 0) (x 15) (X 12) (x 16) (x 17) (x 18) (X 13) (X 14) (X 15) = some (r, o0, o1, o2, o3, o4, o5, o6, o7) ∧ f_X9_of p1 p2 p3 (F 0) (B 1) (B 20) (B 21) = some (r, o0', o1', o2') ∧ Rel (up (up (up (up x 15 o0) 16 o2) 17 o3) 18 o4) (up (up (up (up X 12 o1) 13 o5) 14 o6) 15 o7) kx it F (up (up (up B 1 o0') 20 o1') 21 o2') cl bt := by
  sorry
/-- told -/
theorem st_9 {x : Nat → Int} {X : Nat → Nat → Int} {kx : Nat → Int64} {it : Nat → Nat → Int64} {F : Nat → Int} {B : Nat → Nat → Int} {cl bt : Nat → Int64} (h : Rel x X kx it F B cl bt) (p1 : Int) : ∃ (r : Int) (o0 : Int) (o1 : Int) (o2 : Int) (o3 : Nat → Int) (o4 : Nat → Int) (o5 : Nat → Int) (o0' : Nat → Int), f_X8_told p1 (x 1) (X 0) (x 16) (x 17) (x 18) (X 13) (X 14) (X 15) = some (r, o0, o1, o2, o3, o4, o5) ∧ f_X9_told p1 (F 0) (B 1) (B 22) = some (r, o0') ∧ Rel (up (up (up x 16 o0) 17 o1) 18 o2) (up (up (up X 13 o3) 14 o4) 15 o5) kx it F (up B 22 o0') cl bt := by
  sorry
/-- functionOf -/
theorem st_10 {x : Nat → Int} {X : Nat → Nat → Int} {kx : Nat → Int64} {it : Nat → Nat → Int64} {F : Nat → Int} {B : Nat → Nat → Int} {cl bt : Nat → Int64} (h : Rel x X kx it F B cl bt) (p1 : Int) : ∃ (r : Int), f_X8_functionOf p1 (x 1) (X 0) (X 1) = some r ∧ f_X9_functionOf p1 (F 0) (B 1) (B 2) = some r ∧ Rel x X kx it F B cl bt := by
  sorry
/-- mapOf -/
theorem st_11 {x : Nat → Int} {X : Nat → Nat → Int} {kx : Nat → Int64} {it : Nat → Nat → Int64} {F : Nat → Int} {B : Nat → Nat → Int} {cl bt : Nat → Int64} (h : Rel x X kx it F B cl bt) (p1 : Int) : ∃ (r : Int), f_X8_mapOf p1 (x 1) (X 0) (X 2) = some r ∧ f_X9_mapOf p1 (F 0) (B 1) (B 3) = some r ∧ Rel x X kx it F B cl bt := by
  sorry
/-- middle -/
theorem st_12 {x : Nat → Int} {X : Nat → Nat → Int} {kx : Nat → Int64} {it : Nat → Nat → Int64} {F : Nat → Int} {B : Nat → Nat → Int} {cl bt : Nat → Int64} (h : Rel x X kx it F B cl bt) (p1 : Int) (p2 : Int) (p3 : Int) : ∃ (r : Int), f_X8_middle p1 p2 p3 (x 1) (X 0) = some r ∧ f_X9_middle p1 p2 p3 (F 0) (B 1) = some r ∧ Rel x X kx it F B cl bt := by
  sorry
/-- corners -/
theorem st_13 {x : Nat → Int} {X : Nat → Nat → Int} {kx : Nat → Int64} {it : Nat → Nat → Int64} {F : Nat → Int} {B : Nat → Nat → Int} {cl bt : Nat → Int64} (h : Rel x X kx it F B cl bt) : ∃ (r : Int) (o0 : Int) (o1 : Int) (o2 : Int) (o3 : Int) (o4 : Nat → Int) (o5 : Nat → Int) (o6 : Nat → Int64) (o7 : Nat → Int) (o0' : Int) (o1' : Nat → Int) (o2' : Nat → Int) (o3' : Nat → Int), f_X8_corners (x 1) (X 0) (x 19) (x 20) (x 21) (x 22) (X 16) (X 17) kx (X 18) = some (r, o0, o1, o2, o3, o4, o5, o6, o7) ∧ f_X9_corners (F 0) (F 23) (B 1) (B 24) (B 25) (B 26) = some (r, o0', o1', o2', o3') ∧ Rel (up (up (up (up x 19 o0) 20 o1) 21 o2) 22 o3) (up (up (up X 16 o4) 17 o5) 18 o7) o6 it (up F 23 o0') (up (up (up B 24 o1') 25 o2') 26 o3') cl bt := by
  sorry
/-- at -/
theorem st_14 {x : Nat → Int} {X : Nat → Nat → Int} {kx : Nat → Int64} {it : Nat → Nat → Int64} {F : Nat → Int} {B : Nat → Nat → Int} {cl bt : Nat → Int64} (h : Rel x X kx it F B cl bt) (p1 : Int) (p2 : Int) : ∃ (r : Int) (o0 : Int) (o1 : Int) (o2 : Int) (o3 : Int) (o4 : Nat → Int) (o5 : Nat → Int) (o6 : Nat → Int64) (o7 : Nat → Int) (o0' : Int) (o1' : Nat → Int) (o2' : Nat → Int) (o3' : Nat → Int), f_X8_at p1 p2 (x 1) (X 0) (x 19) (x 20) (x 21) (x 22) (X 16) (X 17) kx (X 18) = some (r, o0, o1, o2, o3, o4, o5, o6, o7) ∧ f_X9_at p1 p2 (F 0) (F 23) (B 1) (B 24) (B 25) (B 26) = some (r, o0', o1', o2', o3') ∧ Rel (up (up (up (up x 19 o0) 20 o1) 21 o2) 22 o3) (up (up (up X 16 o4) 17 o5) 18 o7) o6 it (up F 23 o0') (up (up (up B 24 o1') 25 o2') 26 o3') cl bt := by
  sorry
/-- corner -/
theorem st_15 {x : Nat → Int} {X : Nat → Nat → Int} {kx : Nat → Int64} {it : Nat → Nat → Int64} {F : Nat → Int} {B : Nat → Nat → Int} {cl bt : Nat → Int64} (h : Rel x X kx it F B cl bt) (p1 : Int) (p2 : Int) : ∃ (r : Int) (o0 : Int) (o1 : Int) (o2 : Int) (o3 : Int) (o4 : Nat → Int) (o5 : Nat → Int) (o6 : Nat → Int64) (o7 : Nat → Int) (o0' : Int) (o1' : Nat → Int) (o2' : Nat → Int) (o3' : Nat → Int), f_X8_corner p1 p2 (x 1) (X 0) (x 19) (x 20) (x 21) (x 22) (X 16) (X 17) kx (X 18) = some (r, o0, o1, o2, o3, o4, o5, o6, o7) ∧ f_X9_corner p1 p2 (F 0) (F 23) (B 1) (B 24) (B 25) (B 26) = some (r, o0', o1', o2', o3') ∧ Rel (up (up (up (up x 19 o0) 20 o1) 21 o2) 22 o3) (up (up (up X 16 o4) 17 o5) 18 o7) o6 it (up F 23 o0') (up (up (up B 24 o1') 25 o2') 26 o3') cl bt := by
  sorry
/-- tight -/
theorem st_16 {x : Nat → Int} {X : Nat → Nat → Int} {kx : Nat → Int64} {it : Nat → Nat → Int64} {F : Nat → Int} {B : Nat → Nat → Int} {cl bt : Nat → Int64} (h : Rel x X kx it F B cl bt) (p1 : Int) (p2 : Int) (p3 : Int) : ∃ (r : Int) (o0 : Int) (o1 : Int) (o2 : Int) (o3 : Int) (o4 : Nat → Int) (o5 : Nat → Int) (o6 : Nat → Int64) (o7 : Nat → Int) (o0' : Int) (o1' : Nat → Int) (o2' : Nat → Int) (o3' : Nat → Int), f_X8_tight p1 p2 p3 (x 1) (X 0) (x 19) (x 20) (x 21) (x 22) (X 16) (X 17) kx (X 18) = some (r, o0, o1, o2, o3, o4, o5, o6, o7) ∧ f_X9_tight p1 p2 p3 (F 0) (F 23) (B 1) (B 24) (B 25) (B 26) = some (r, o0', o1', o2', o3') ∧ Rel (up (up (up (up x 19 o0) 20 o1) 21 o2) 22 o3) (up (up (up X 16 o4) 17 o5) 18 o7) o6 it (up F 23 o0') (up (up (up B 24 o1') 25 o2') 26 o3') cl bt := by
  sorry
/-- two -/
theorem st_17 {x : Nat → Int} {X : Nat → Nat → Int} {kx : Nat → Int64} {it : Nat → Nat → Int64} {F : Nat → Int} {B : Nat → Nat → Int} {cl bt : Nat → Int64} (h : Rel x X kx it F B cl bt) (p1 : Int) (p2 : Int) (p3 : Int) : ∃ (r : Int) (o0 : Int) (o1 : Int) (o2 : Int) (o3 : Int) (o4 : Nat → Int) (o5 : Nat → Int) (o6 : Nat → Int64) (o7 : Nat → Int) (o0' : Int) (o1' : Nat → Int) (o2' : Nat → Int) (o3' : Nat → Int), f_X8_two p1 p2 p3 (x 1) (X 0) (x 19) (x 20) (x 21) (x 22) (X 16) (X 17) kx (X 18) = some (r, o0, o1, o2, o3, o4, o5, o6, o7) ∧ f_X9_two p1 p2 p3 (F 0) (F 23) (B 1) (B 24) (B 25) (B 26) = some (r, o0', o1', o2', o3') ∧ Rel (up (up (up (up x 19 o0) 20 o1) 21 o2) 22 o3) (up (up (up X 16 o4) 17 o5) 18 o7) o6 it (up F 23 o0') (up (up (up B 24 o1') 25 o2') 26 o3') cl bt := by
  sorry
/-- eye -/
theorem st_18 {x : Nat → Int} {X : Nat → Nat → Int} {kx : Nat → Int64} {it : Nat → Nat → Int64} {F : Nat → Int} {B : Nat → Nat → Int} {cl bt : Nat → Int64} (h : Rel x X kx it F B cl bt) (p1 : Int) : ∃ (r : Int) (o0 : Int) (o1 : Int) (o2 : Int) (o3 : Int) (o4 : Nat → Int) (o5 : Nat → Int) (o6 : Nat → Int64) (o7 : Nat → Int) (o0' : Int) (o1' : Nat → Int) (o2' : Nat → Int) (o3' : Nat → Int), f_X8_eye p1 (x 1) (X 0) (x 19) (x 20) (x 21) (x 22) (X 16) (X 17) kx (X 18) = some (r, o0, o1, o2, o3, o4, o5, o6, o7) ∧ f_X9_eye p1 (F 0) (F 23) (B 1) (B 24) (B 25) (B 26) = some (r, o0', o1', o2', o3') ∧ Rel (up (up (up (up x 19 o0) 20 o1) 21 o2) 22 o3) (up (up (up X 16 o4) 17 o5) 18 o7) o6 it (up F 23 o0') (up (up (up B 24 o1') 25 o2') 26 o3') cl bt := by
  sorry
/-- weight -/
theorem st_19 {x : Nat → Int} {X : Nat → Nat → Int} {kx : Nat → Int64} {it : Nat → Nat → Int64} {F : Nat → Int} {B : Nat → Nat → Int} {cl bt : Nat → Int64} (h : Rel x X kx it F B cl bt) (p1 : Int) : ∃ (r : Int), f_X8_weight p1 (x 1) (X 0) = some r ∧ f_X9_weight p1 (F 0) (B 1) = some r ∧ Rel x X kx it F B cl bt := by
  sorry
/-- split -/
theorem st_20 {x : Nat → Int} {X : Nat → Nat → Int} {kx : Nat → Int64} {it : Nat → Nat → Int64} {F : Nat → Int} {B : Nat → Nat → Int} {cl bt : Nat → Int64} (h : Rel x X kx it F B cl bt) (p1 : Int) (p2 : Int) : ∃ (r : Int) (o0 : Int) (o1 : Int) (o2 : Int) (o3 : Nat → Int) (o4 : Nat → Int) (o5 : Nat → Int), f_X8_split p1 p2 (x 1) (X 0) (x 16) (x 17) (x 18) (X 13) (X 14) (X 15) = some (r, o0, o1, o2, o3, o4, o5) ∧ f_X9_split p1 p2 (F 0) (B 1) = some r ∧ Rel (up (up (up x 16 o0) 17 o1) 18 o2) (up (up (up X 13 o3) 14 o4) 15 o5) kx it F B cl bt := by
  sorry
/-- see -/
theorem st_21 {x : Nat → Int} {X : Nat → Nat → Int} {kx : Nat → Int64} {it : Nat → Nat → Int64} {F : Nat → Int} {B : Nat → Nat → Int} {cl bt : Nat → Int64} (h : Rel x X kx it F B cl bt) (p1 : Int) (p2 : Int) : ∃ (r : Int) (o0 : Int) (o1 : Nat → Int) (o0' : Int) (o1' : Nat → Int) (o2' : Nat → Int), f_X8_see p1 p2 (x 1) (x 2) (x 3) (X 3) = some (r, o0, o1) ∧ f_X9_see p1 p2 (F 0) (F 4) (B 5) (B 6) = some (r, o0', o1', o2') ∧ Rel (up x 3 o0) (up X 3 o1) kx it (up F 4 o0') (up (up B 5 o1') 6 o2') cl bt := by
  sorry
/-- fits -/
theorem st_22 {x : Nat → Int} {X : Nat → Nat → Int} {kx : Nat → Int64} {it : Nat → Nat → Int64} {F : Nat → Int} {B : Nat → Nat → Int} {cl bt : Nat → Int64} (h : Rel x X kx it F B cl bt) (p1 : Int) (p2 : Int) (p3 : Int) : ∃ (r : Int) (o0 : Int) (o1 : Nat → Int) (o0' : Nat → Int), f_X8_fits p1 p2 p3 (x 1) (X 0) (x 3) (X 3) (x 15) (X 12) = some (r, o0, o1) ∧ f_X9_fits p1 p2 p3 (F 0) (F 4) (B 1) (B 5) (B 6) = some (r, o0') ∧ Rel (up x 15 o0) (up X 12 o1) kx it F (up B 1 o0') cl bt := by
  sorry
/-- odds -/
theorem st_23 {x : Nat → Int} {X : Nat → Nat → Int} {kx : Nat → Int64} {it : Nat → Nat → Int64} {F : Nat → Int} {B : Nat → Nat → Int} {cl bt : Nat → Int64} (h : Rel x X kx it F B cl bt) (p1 : Int) (p2 : Int) (p3 : Int) : ∃ (r : Int64) (o0 : Int) (o1 : Int) (o2 : Int) (o3 : Nat → Int) (o4 : Nat → Int) (o5 : Nat → Int), f_X8_odds p1 p2 p3 (x 1) (X 0) (x 16) (x 17) (x 18) (X 13) (X 14) (X 15) = some (r, o0, o1, o2, o3, o4, o5) ∧ f_X9_odds p1 p2 p3 (F 0) (B 1) = some r ∧ Rel (up (up (up x 16 o0) 17 o1) 18 o2) (up (up (up X 13 o3) 14 o4) 15 o5) kx it F B cl bt := by
  sorry
/-- mean -/
theorem st_24 {x : Nat → Int} {X : Nat → Nat → Int} {kx : Nat → Int64} {it : Nat → Nat → Int64} {F : Nat → Int} {B : Nat → Nat → Int} {cl bt : Nat → Int64} (h : Rel x X kx it F B cl bt) (p1 : Int) : ∃ (r : Int64), f_X8_mean p1 (x 1) (X 0) = some r ∧ f_X9_mean p1 (F 0) (B 1) = some r ∧ Rel x X kx it F B cl bt := by
  sorry
/-- event -/
theorem st_25 {x : Nat → Int} {X : Nat → Nat → Int} {kx : Nat → Int64} {it : Nat → Nat → Int64} {F : Nat → Int} {B : Nat → Nat → Int} {cl bt : Nat → Int64} (h : Rel x X kx it F B cl bt) (p1 : Int) (p2 : Int) : ∃ (r : Int) (o0 : Int) (o1 : Nat → Int) (o0' : Int) (o1' : Nat → Int) (o2' : Nat → Int), f_X8_event p1 p2 (x 1) (x 4) (x 5) (X 4) = some (r, o0, o1) ∧ f_X9_event p1 p2 (F 0) (F 7) (B 8) (B 9) = some (r, o0', o1', o2') ∧ Rel (up x 5 o0) (up X 4 o1) kx it (up F 7 o0') (up (up B 8 o1') 9 o2') cl bt := by
  sorry
/-- after -/
theorem st_26 {x : Nat → Int} {X : Nat → Nat → Int} {kx : Nat → Int64} {it : Nat → Nat → Int64} {F : Nat → Int} {B : Nat → Nat → Int} {cl bt : Nat → Int64} (h : Rel x X kx it F B cl bt) (p1 : Int) : ∃ (r : Int) (o0 : Int) (o1 : Nat → Int) (o2 : Int) (o3 : Int) (o4 : Int) (o5 : Nat → Int) (o6 : Nat → Int) (o7 : Nat → Int) (o0' : Nat → Int) (o1' : Nat → Int) (o2' : Nat → Int), f_X8_after p1 (x 1) (X 0) (x 5) (X 4) (x 15) (X 12) (x 16) (x 17) (x 18) (X 13) (X 14) (X 15) = some (r, o0, o1, o2, o3, o4, o5, o6, o7) ∧ f_X9_after p1 (F 0) (F 7) (B 1) (B 8) (B 9) (B 20) (B 21) = some (r, o0', o1', o2') ∧ Rel (up (up (up (up x 15 o0) 16 o2) 17 o3) 18 o4) (up (up (up (up X 12 o1) 13 o5) 14 o6) 15 o7) kx it F (up (up (up B 1 o0') 20 o1') 21 o2') cl bt := by
  sorry
/-- book -/
theorem st_27 {x : Nat → Int} {X : Nat → Nat → Int} {kx : Nat → Int64} {it : Nat → Nat → Int64} {F : Nat → Int} {B : Nat → Nat → Int} {cl bt : Nat → Int64} (h : Rel x X kx it F B cl bt) (p1 : Int) (p2 : Int) (p3 : Int) : ∃ (r : Int) (o0 : Int) (o1 : Nat → Int) (o0' : Int) (o1' : Nat → Int) (o2' : Nat → Int) (o3' : Nat → Int), f_X8_book p1 p2 p3 (x 1) (x 6) (x 7) (X 5) = some (r, o0, o1) ∧ f_X9_book p1 p2 p3 (F 0) (F 10) (B 11) (B 12) (B 13) = some (r, o0', o1', o2', o3') ∧ Rel (up x 7 o0) (up X 5 o1) kx it (up F 10 o0') (up (up (up B 11 o1') 12 o2') 13 o3') cl bt := by
  sorry
/-- looked -/
theorem st_28 {x : Nat → Int} {X : Nat → Nat → Int} {kx : Nat → Int64} {it : Nat → Nat → Int64} {F : Nat → Int} {B : Nat → Nat → Int} {cl bt : Nat → Int64} (h : Rel x X kx it F B cl bt) : ∃ (r : Int), f_X8_looked (x 1) (X 0) (x 7) (X 5) = some r ∧ f_X9_looked (F 0) (F 10) (B 1) (B 11) (B 12) (B 13) = some r ∧ Rel x X kx it F B cl bt := by
  sorry
/-- judge -/
theorem st_29 {x : Nat → Int} {X : Nat → Nat → Int} {kx : Nat → Int64} {it : Nat → Nat → Int64} {F : Nat → Int} {B : Nat → Nat → Int} {cl bt : Nat → Int64} (h : Rel x X kx it F B cl bt) (p1 : Int) (p2 : Int) : ∃ (r : Int), f_X8_judge p1 p2 (x 1) (X 0) it (X 21) (X 22) = some r ∧ f_X9_judge p1 p2 (F 0) (B 1) (B 16) (B 17) cl = some r ∧ Rel x X kx it F B cl bt := by
  sorry
/-- image -/
theorem st_30 {x : Nat → Int} {X : Nat → Nat → Int} {kx : Nat → Int64} {it : Nat → Nat → Int64} {F : Nat → Int} {B : Nat → Nat → Int} {cl bt : Nat → Int64} (h : Rel x X kx it F B cl bt) : ∃ (r : Int) (o0 : Int) (o1 : Int) (o2 : Nat → Int) (o3 : Nat → Int) (o4 : Nat → Int) (o5 : Int) (o6 : Nat → Int) (o7 : Int) (o8 : Nat → Int) (o9 : Int) (o10 : Nat → Int) (o0' : Int) (o1' : Nat → Int), f_X8_image (x 0) (x 1) (X 0) (X 1) (X 2) (x 3) (X 3) (x 5) (X 4) (x 7) (X 5) (x 8) (X 6) (X 7) (X 8) (x 9) (x 10) (X 9) (x 11) (x 12) (X 10) (x 13) (x 14) (X 11) = some (r, o0, o1, o2, o3, o4, o5, o6, o7, o8, o9, o10) ∧ f_X9_image (F 0) (F 4) (F 7) (F 10) (F 33) (B 1) (B 2) (B 3) (B 5) (B 6) (B 8) (B 9) (B 11) (B 12) (B 13) (B 34) = some (r, o0', o1') ∧ Rel (up (up (up (up (up x 0 o0) 8 o1) 10 o5) 12 o7) 14 o9) (up (up (up (up (up (up X 6 o2) 7 o3) 8 o4) 9 o6) 10 o8) 11 o10) kx it (up F 33 o0') (up B 34 o1') cl bt := by
  sorry
/-- undo -/
theorem st_31 {x : Nat → Int} {X : Nat → Nat → Int} {kx : Nat → Int64} {it : Nat → Nat → Int64} {F : Nat → Int} {B : Nat → Nat → Int} {cl bt : Nat → Int64} (h : Rel x X kx it F B cl bt) : ∃ (r : Int) (o0 : Int) (o1 : Nat → Int) (o2 : Nat → Int) (o3 : Nat → Int) (o4 : Int) (o5 : Nat → Int) (o6 : Int) (o7 : Nat → Int) (o8 : Int) (o9 : Nat → Int) (o0' : Int) (o1' : Int) (o2' : Int) (o3' : Int) (o4' : Nat → Int) (o5' : Nat → Int) (o6' : Nat → Int) (o7' : Nat → Int) (o8' : Nat → Int) (o9' : Nat → Int) (o10' : Nat → Int) (o11' : Nat → Int) (o12' : Nat → Int) (o13' : Nat → Int), f_X8_undo (x 0) (x 1) (X 0) (X 1) (X 2) (x 2) (x 3) (X 3) (x 4) (x 5) (X 4) (x 6) (x 7) (X 5) (x 8) (X 6) (X 7) (X 8) (x 10) (X 9) (x 12) (X 10) (x 14) (X 11) = some (r, o0, o1, o2, o3, o4, o5, o6, o7, o8, o9) ∧ f_X9_undo (F 0) (F 4) (F 7) (F 10) (F 33) (B 1) (B 2) (B 3) (B 5) (B 6) (B 8) (B 9) (B 11) (B 12) (B 13) (B 34) = some (r, o0', o1', o2', o3', o4', o5', o6', o7', o8', o9', o10', o11', o12', o13') ∧ Rel (up (up (up (up x 1 o0) 3 o4) 5 o6) 7 o8) (up (up (up (up (up (up X 0 o1) 1 o2) 2 o3) 3 o5) 4 o7) 5 o9) kx it (up (up (up (up F 0 o0') 4 o1') 7 o2') 10 o3') (up (up (up (up (up (up (up (up (up (up B 1 o4') 2 o5') 3 o6') 5 o7') 6 o8') 8 o9') 9 o10') 11 o11') 12 o12') 13 o13') cl bt := by
  sorry
/-- count -/
theorem st_32 {x : Nat → Int} {X : Nat → Nat → Int} {kx : Nat → Int64} {it : Nat → Nat → Int64} {F : Nat → Int} {B : Nat → Nat → Int} {cl bt : Nat → Int64} (h : Rel x X kx it F B cl bt) (p1 : Int) : ∃ (r : Int), f_X8_count p1 (x 3) (x 5) (x 7) (x 23) = some r ∧ f_X9_count p1 (F 4) (F 7) (F 10) (F 15) = some r ∧ Rel x X kx it F B cl bt := by
  sorry
/-- tape -/
theorem st_33 {x : Nat → Int} {X : Nat → Nat → Int} {kx : Nat → Int64} {it : Nat → Nat → Int64} {F : Nat → Int} {B : Nat → Nat → Int} {cl bt : Nat → Int64} (h : Rel x X kx it F B cl bt) (p1 : Int) (p2 : Int) (p3 : Int) : ∃ (r : Int) (o0 : Nat → Nat → Int64) (o1 : Nat → Int) (o2 : Nat → Int) (o0' : Nat → Int) (o1' : Nat → Int) (o2' : Nat → Int64), f_X8_tape p1 p2 p3 it (X 21) (X 22) = some (r, o0, o1, o2) ∧ f_X9_tape p1 p2 p3 (B 16) (B 17) cl = some (r, o0', o1', o2') ∧ Rel x (up (up X 21 o1) 22 o2) kx o0 F (up (up B 16 o0') 17 o1') o2' bt := by
  sorry
/-- item -/
theorem st_34 {x : Nat → Int} {X : Nat → Nat → Int} {kx : Nat → Int64} {it : Nat → Nat → Int64} {F : Nat → Int} {B : Nat → Nat → Int} {cl bt : Nat → Int64} (h : Rel x X kx it F B cl bt) (p1 : Int) (p2 : Int) (v : Int64) : ∃ (r : Int) (o0 : Nat → Nat → Int64) (o0' : Nat → Int64), f_X8_item p1 p2 v it (X 21) (X 22) = some (r, o0) ∧ f_X9_item p1 p2 v (B 16) (B 17) cl = some (r, o0') ∧ Rel x X kx o0 F B o0' bt := by
  sorry
/-- peek -/
theorem st_35 {x : Nat → Int} {X : Nat → Nat → Int} {kx : Nat → Int64} {it : Nat → Nat → Int64} {F : Nat → Int} {B : Nat → Nat → Int} {cl bt : Nat → Int64} (h : Rel x X kx it F B cl bt) (p1 : Int) (p2 : Int) : ∃ (r : Int64), f_X8_peek p1 p2 it (X 21) (X 22) = some r ∧ f_X9_peek p1 p2 (B 16) (B 17) cl = some r ∧ Rel x X kx it F B cl bt := by
  sorry
/-- shift -/
theorem st_36 {x : Nat → Int} {X : Nat → Nat → Int} {kx : Nat → Int64} {it : Nat → Nat → Int64} {F : Nat → Int} {B : Nat → Nat → Int} {cl bt : Nat → Int64} (h : Rel x X kx it F B cl bt) (p1 : Int) (p2 : Int) (p3 : Int) (p4 : Int) (p5 : Int) : ∃ (r : Int) (o0 : Nat → Nat → Int64) (o0' : Nat → Int64) (o1' : Nat → Int64), f_X8_shift p1 p2 p3 p4 p5 it (X 21) (X 22) = some (r, o0) ∧ f_X9_shift p1 p2 p3 p4 p5 (B 16) (B 17) cl bt = some (r, o0', o1') ∧ Rel x X kx o0 F B o0' o1' := by
  sorry
