/-! PURE PART: all pairs, in two orders; girth, span -/
def fld (op : Int → Int → Int) (f : Nat → Int) (a : Int) : Nat → Int
  | 0 => a
  | n + 1 => op (fld op f a n) (f n)
def ot (h : Nat → Int → Int) : Nat → Int
  | 0 => 0
  | k + 1 => h k (ot h k)
def pr4 (op : Int → Int → Int) (g : Nat → Int) (n : Nat) : Int := ot (fun k a => fld op (fun t => g (5 * k + (k + 1 + t))) a (n - (k + 1))) n
def pr9 (op : Int → Int → Int) (g : Nat → Int) (n : Nat) : Int := ot (fun k a => fld op (fun j => g (5 * k + j)) a k) n
theorem girth_X4 {n : Nat} {g : Nat → Int} (h5 : n ≤ 5) : f_X4_girth n g = some (pr4 (fun a b => a + b) g n) := by
  unfold f_X4_girth
  refine lq2_run (s1 := fun k => ot (fun k a => fld (fun a b => a + b) (fun t => g (5 * k + (k + 1 + t))) a (n - (k + 1))) k) (s2 := fun k => (k : Int)) n (fun k hk nx => ?_) (fun nx => ?_) 300 0 (by omega) (by omega)
  · rw [ltT (a := (k : Int)) (b := (n : Int)) (by omega) (by omega) (by omega) (by omega) (by omega), if_pos rfl, lv]
    have r := lq2_run (f := fun (n16 : Int → Int → Option Int) (v1_16 : Int) (v3_16 : Int) => if ltI v3_16 n = true then (bd1 (f_X4_gap k v3_16 n g) (fun r28 => lv (((fun a b => a + b) v1_16 r28)) (fun x34 => n16 x34 (v3_16 + 1)))) else (nx v1_16 ((k : Int) + 1))) (s1 := fun t => fld (fun a b => a + b) (fun t => g (5 * k + (k + 1 + t))) (ot (fun k a => fld (fun a b => a + b) (fun t => g (5 * k + (k + 1 + t))) a (n - (k + 1))) k) t) (s2 := fun t => ((k + 1 + t : Nat) : Int)) (n - (k + 1)) (R := nx (ot (fun k a => fld (fun a b => a + b) (fun t => g (5 * k + (k + 1 + t))) a (n - (k + 1))) (k + 1)) ((k : Int) + 1)) (fun t ht ny => ?_) (fun ny => ?_) 300 0 (by omega) (by omega)
    · exact r
    · show (if ltI ((k + 1 + t : Nat) : Int) n = true then _ else _) = _
      rw [ltT (a := ((k + 1 + t : Nat) : Int)) (b := (n : Int)) (by omega) (by omega) (by omega) (by omega) (by omega), if_pos rfl, gap_N (by omega) (by omega) (by omega)]
      rfl
    · show (if ltI ((k + 1 + (n - (k + 1)) : Nat) : Int) n = true then _ else _) = _
      rw [ltF (a := ((k + 1 + (n - (k + 1)) : Nat) : Int)) (b := (n : Int)) (by omega) (by omega) (by omega) (by omega) (by omega), if_neg (by decide)]
      rfl
  · rw [ltF (a := (n : Int)) (b := (n : Int)) (by omega) (by omega) (by omega) (by omega) (by omega), if_neg (by decide)]
    rfl
theorem girth_X9 {n : Nat} {g : Nat → Int} (h5 : n ≤ 5) : f_X9_girth n g = some (pr9 (fun a b => a + b) g n) := by
  unfold f_X9_girth
  refine lq2_run (s1 := fun k => ot (fun k a => fld (fun a b => a + b) (fun j => g (5 * k + j)) a k) k) (s2 := fun k => (k : Int)) n (fun k hk nx => ?_) (fun nx => ?_) 300 0 (by omega) (by omega)
  · rw [ltT (a := (k : Int)) (b := (n : Int)) (by omega) (by omega) (by omega) (by omega) (by omega), if_pos rfl]
    have r := lq2_run (f := fun (n14 : Int → Int → Option Int) (v1_14 : Int) (v3_14 : Int) => if ltI v3_14 k = true then (bd1 (f_X9_d k v3_14 g) (fun r23 => lv (((fun a b => a + b) v1_14 r23)) (fun x29 => n14 x29 (v3_14 + 1)))) else (nx v1_14 ((k : Int) + 1))) (s1 := fun t => fld (fun a b => a + b) (fun j => g (5 * k + j)) (ot (fun k a => fld (fun a b => a + b) (fun j => g (5 * k + j)) a k) k) t) (s2 := fun t => (t : Int)) k (R := nx (ot (fun k a => fld (fun a b => a + b) (fun j => g (5 * k + j)) a k) (k + 1)) ((k : Int) + 1)) (fun t ht ny => ?_) (fun ny => ?_) 300 0 (by omega) (by omega)
    · exact r
    · show (if ltI (t : Int) k = true then _ else _) = _
      rw [ltT (a := (t : Int)) (b := (k : Int)) (by omega) (by omega) (by omega) (by omega) (by omega), if_pos rfl, d_N (by omega) (by omega)]
      rfl
    · show (if ltI (k : Int) k = true then _ else _) = _
      rw [ltF (a := (k : Int)) (b := (k : Int)) (by omega) (by omega) (by omega) (by omega) (by omega), if_neg (by decide)]
      rfl
  · rw [ltF (a := (n : Int)) (b := (n : Int)) (by omega) (by omega) (by omega) (by omega) (by omega), if_neg (by decide)]
    rfl
theorem span_X4 {n : Nat} {g : Nat → Int} (h5 : n ≤ 5) : f_X4_span n g = some (pr4 maxI g n) := by
  unfold f_X4_span
  refine lq2_run (s1 := fun k => ot (fun k a => fld maxI (fun t => g (5 * k + (k + 1 + t))) a (n - (k + 1))) k) (s2 := fun k => (k : Int)) n (fun k hk nx => ?_) (fun nx => ?_) 300 0 (by omega) (by omega)
  · rw [ltT (a := (k : Int)) (b := (n : Int)) (by omega) (by omega) (by omega) (by omega) (by omega), if_pos rfl, lv]
    have r := lq2_run (f := fun (n16 : Int → Int → Option Int) (v1_16 : Int) (v3_16 : Int) => if ltI v3_16 n = true then (bd1 (f_X4_gap k v3_16 n g) (fun r28 => lv ((maxI v1_16 r28)) (fun x34 => n16 x34 (v3_16 + 1)))) else (nx v1_16 ((k : Int) + 1))) (s1 := fun t => fld maxI (fun t => g (5 * k + (k + 1 + t))) (ot (fun k a => fld maxI (fun t => g (5 * k + (k + 1 + t))) a (n - (k + 1))) k) t) (s2 := fun t => ((k + 1 + t : Nat) : Int)) (n - (k + 1)) (R := nx (ot (fun k a => fld maxI (fun t => g (5 * k + (k + 1 + t))) a (n - (k + 1))) (k + 1)) ((k : Int) + 1)) (fun t ht ny => ?_) (fun ny => ?_) 300 0 (by omega) (by omega)
    · exact r
    · show (if ltI ((k + 1 + t : Nat) : Int) n = true then _ else _) = _
      rw [ltT (a := ((k + 1 + t : Nat) : Int)) (b := (n : Int)) (by omega) (by omega) (by omega) (by omega) (by omega), if_pos rfl, gap_N (by omega) (by omega) (by omega)]
      rfl
    · show (if ltI ((k + 1 + (n - (k + 1)) : Nat) : Int) n = true then _ else _) = _
      rw [ltF (a := ((k + 1 + (n - (k + 1)) : Nat) : Int)) (b := (n : Int)) (by omega) (by omega) (by omega) (by omega) (by omega), if_neg (by decide)]
      rfl
  · rw [ltF (a := (n : Int)) (b := (n : Int)) (by omega) (by omega) (by omega) (by omega) (by omega), if_neg (by decide)]
    rfl
theorem span_X9 {n : Nat} {g : Nat → Int} (h5 : n ≤ 5) : f_X9_span n g = some (pr9 maxI g n) := by
  unfold f_X9_span
  refine lq2_run (s1 := fun k => ot (fun k a => fld maxI (fun j => g (5 * k + j)) a k) k) (s2 := fun k => (k : Int)) n (fun k hk nx => ?_) (fun nx => ?_) 300 0 (by omega) (by omega)
  · rw [ltT (a := (k : Int)) (b := (n : Int)) (by omega) (by omega) (by omega) (by omega) (by omega), if_pos rfl]
    have r := lq2_run (f := fun (n14 : Int → Int → Option Int) (v1_14 : Int) (v3_14 : Int) => if ltI v3_14 k = true then (bd1 (f_X9_d k v3_14 g) (fun r23 => lv ((maxI v1_14 r23)) (fun x29 => n14 x29 (v3_14 + 1)))) else (nx v1_14 ((k : Int) + 1))) (s1 := fun t => fld maxI (fun j => g (5 * k + j)) (ot (fun k a => fld maxI (fun j => g (5 * k + j)) a k) k) t) (s2 := fun t => (t : Int)) k (R := nx (ot (fun k a => fld maxI (fun j => g (5 * k + j)) a k) (k + 1)) ((k : Int) + 1)) (fun t ht ny => ?_) (fun ny => ?_) 300 0 (by omega) (by omega)
    · exact r
    · show (if ltI (t : Int) k = true then _ else _) = _
      rw [ltT (a := (t : Int)) (b := (k : Int)) (by omega) (by omega) (by omega) (by omega) (by omega), if_pos rfl, d_N (by omega) (by omega)]
      rfl
    · show (if ltI (k : Int) k = true then _ else _) = _
      rw [ltF (a := (k : Int)) (b := (k : Int)) (by omega) (by omega) (by omega) (by omega) (by omega), if_neg (by decide)]
      rfl
  · rw [ltF (a := (n : Int)) (b := (n : Int)) (by omega) (by omega) (by omega) (by omega) (by omega), if_neg (by decide)]
    rfl
/-- the other order tells the same, where the order does not count -/
theorem pr_same {op : Int → Int → Int} (hc : ∀ a b c : Int, op (op a b) c = op (op a c) b) {n : Nat} {g far : Nat → Int} (h3 : 3 ≤ n) (h5 : n ≤ 5) (tf : Tb far) (ag : Ag n g far) : pr4 op g n = pr9 op far n := by
  have e : ∀ i j : Nat, i < n → j < n → g (5 * i + j) = far (5 * j + i) := fun i j hi hj => (ag i j (by omega) (by omega)).trans (tf i j (by omega) (by omega)).2.2.1
  have hn : n = 3 ∨ n = 4 ∨ n = 5 := by omega
  rcases hn with rfl | rfl | rfl
  · have a1 : g 1 = far 5 := e 0 1 (by omega) (by omega)
    have a2 : g 2 = far 10 := e 0 2 (by omega) (by omega)
    have a3 : g 7 = far 11 := e 1 2 (by omega) (by omega)
    show op (op (op 0 (g 1)) (g 2)) (g 7) = op (op (op 0 (far 5)) (far 10)) (far 11)
    rw [a1, a2, a3]
  · have a1 : g 1 = far 5 := e 0 1 (by omega) (by omega)
    have a2 : g 2 = far 10 := e 0 2 (by omega) (by omega)
    have a4 : g 3 = far 15 := e 0 3 (by omega) (by omega)
    have a3 : g 7 = far 11 := e 1 2 (by omega) (by omega)
    have a5 : g 8 = far 16 := e 1 3 (by omega) (by omega)
    have a6 : g 13 = far 17 := e 2 3 (by omega) (by omega)
    show op (op (op (op (op (op 0 (g 1)) (g 2)) (g 3)) (g 7)) (g 8)) (g 13) = op (op (op (op (op (op 0 (far 5)) (far 10)) (far 11)) (far 15)) (far 16)) (far 17)
    rw [a1, a2, a3, a4, a5, a6, hc _ (far 15) (far 11)]
  · have a1 : g 1 = far 5 := e 0 1 (by omega) (by omega)
    have a2 : g 2 = far 10 := e 0 2 (by omega) (by omega)
    have a4 : g 3 = far 15 := e 0 3 (by omega) (by omega)
    have a7 : g 4 = far 20 := e 0 4 (by omega) (by omega)
    have a3 : g 7 = far 11 := e 1 2 (by omega) (by omega)
    have a5 : g 8 = far 16 := e 1 3 (by omega) (by omega)
    have a8 : g 9 = far 21 := e 1 4 (by omega) (by omega)
    have a6 : g 13 = far 17 := e 2 3 (by omega) (by omega)
    have a9 : g 14 = far 22 := e 2 4 (by omega) (by omega)
    have a10 : g 19 = far 23 := e 3 4 (by omega) (by omega)
    show op (op (op (op (op (op (op (op (op (op 0 (g 1)) (g 2)) (g 3)) (g 4)) (g 7)) (g 8)) (g 9)) (g 13)) (g 14)) (g 19) = op (op (op (op (op (op (op (op (op (op 0 (far 5)) (far 10)) (far 11)) (far 15)) (far 16)) (far 17)) (far 20)) (far 21)) (far 22)) (far 23)
    rw [a1, a2, a3, a4, a5, a6, a7, a8, a9, a10, hc _ (far 20) (far 11), hc _ (far 15) (far 11), hc _ (far 20) (far 16), hc _ (far 21) (far 17), hc _ (far 20) (far 17)]
theorem girth_same {n : Int} {g far : Nat → Int} (h3 : 3 ≤ n) (h5 : n ≤ 5) (tf : Tb far) (ag : Ag n g far) : ∃ r, f_X4_girth n g = some r ∧ f_X9_girth n far = some r := by
  obtain ⟨m, rfl⟩ := toN (show 0 ≤ n by omega)
  refine ⟨_, girth_X4 (by omega), ?_⟩
  rw [girth_X9 (by omega), pr_same (fun a b c => by omega) (by omega) (by omega) tf ag]
