/-! PURE PART: tapes -/
/-- h done b times, with the number of the turn -/
def itN {A : Type} (h : Nat → A → A) (a : A) : Nat → A
  | 0 => a
  | k + 1 => h k (itN h a k)
theorem itN_inv {A : Type} {h : Nat → A → A} {a : A} (I : Nat → A → Prop) (h0 : I 0 a) (hs : ∀ k c, I k c → I (k + 1) (h k c)) : ∀ b, I b (itN h a b)
  | 0 => h0
  | b + 1 => hs b _ (itN_inv I h0 hs b)
theorem has_X5 {p : Int} (hp : rg p) : f_X5_has p = some (b01 (0 ≤ p ∧ p < 6)) := by
  obtain ⟨g1, g2⟩ := hp
  simp (disch := omega) only [f_X5_has, jn, ltI_eq, decide_eq_true_eq, grd_s isB_0, grd_s isB_1]
  unfold b01
  repeat' split
  all_goals first | rfl | omega
theorem isTape_X9 {p : Int} (hp : rg p) : f_X9_isTape p = some (b01 (0 ≤ p ∧ p < 6)) := by
  unfold f_X9_isTape
  rw [in_X9 hp ⟨by omega, by omega⟩ ⟨by omega, by omega⟩, bd1_s, grd_s (b01_B _)]
  exact congrArg some (b01_c (by omega))
theorem holdsN_X5 {t : Nat} {so : Nat → Int} (ht : t < 6) (h1 : -1 ≤ so t) (h2 : so t ≤ 4) : f_X5_holdsNothing t so = some (b01 (so t = -1)) := by
  unfold f_X5_holdsNothing
  have e1 : iin (t : Int) 6 = true := iin_t (by omega) (by omega) (by omega)
  rw [has_X5 ⟨by omega, by omega⟩, b01_t ⟨by omega, by omega⟩]
  simp (disch := omega) only [bd1_s, jn, grd_s e1, ix_nat, eqI_eq, decide_eq_true_eq, grd_s isB_0, grd_s isB_1]
  unfold b01
  rw [if_neg (by decide)]
  repeat' split
  all_goals rfl
theorem holdsN_X5n {p : Int} {so : Nat → Int} (hp : rg p) (h : ¬ (0 ≤ p ∧ p < 6)) : f_X5_holdsNothing p so = some 1 := by
  unfold f_X5_holdsNothing
  rw [has_X5 hp, b01_f h]
  rfl
theorem hasItem_X5 {t : Nat} {p : Int} {so le : Nat → Int} (ht : t < 6) (hp : rg p) (h1 : -1 ≤ so t) (h2 : so t ≤ 4) (h3 : 0 ≤ le t) (h4 : le t ≤ 60) : f_X5_hasItem t p so le = some (b01 (so t ≠ -1 ∧ 0 ≤ p ∧ p < le t)) := by
  unfold f_X5_hasItem
  have e1 : iin (t : Int) 6 = true := iin_t (by omega) (by omega) (by omega)
  rw [holdsN_X5 ht h1 h2]
  obtain ⟨g1, g2⟩ := hp
  simp (disch := omega) only [bd1_s, jn, grd_s e1, ix_nat, b01_0, ltI_eq, decide_eq_true_eq, grd_s isB_0, grd_s isB_1, Bool.not_eq_true', decide_eq_false_iff_not]
  unfold b01
  repeat' split
  all_goals first | rfl | omega
theorem hasItem_X5n {p q : Int} {so le : Nat → Int} (hp : rg p) (h : ¬ (0 ≤ p ∧ p < 6)) : f_X5_hasItem p q so le = some 0 := by
  unfold f_X5_hasItem
  rw [holdsN_X5n hp h]
  rfl
/-- a tape's row, all 0 -/
def zer (it : Nat → Nat → Int64) (t : Nat) : Nat → Nat → Nat → Int64 := itN (fun k a => up a t (up (a t) k 0)) it
theorem lay_X5 {t : Nat} {p2 p3 : Int} {it : Nat → Nat → Int64} {so le : Nat → Int} (ht : t < 6) : f_X5_lay t p2 p3 it so le = some (1, zer it t 60, up so t p2, up le t p3) := by
  unfold f_X5_lay
  have e1 : iin (t : Int) 6 = true := iin_t (by omega) (by omega) (by omega)
  rw [grd_s e1, grd_s e1, ix_nat (by omega)]
  refine lq2_run (s1 := fun k => (k : Int)) (s2 := zer it t) 60 (fun k hk nx => ?_) (fun nx => ?_) 300 0 (by omega) (by omega)
  · have e2 : iin (k : Int) 60 = true := iin_t (by omega) (by omega) (by omega)
    simp (disch := omega) only [ltI_eq, grd_s e1, grd_s e2, lv, ix_nat]
    rw [decide_eq_true (by omega)]
    rfl
  · rfl
theorem zer_at (it : Nat → Nat → Int64) (t : Nat) {b k : Nat} (hk : k < b) : zer it t b t k = 0 := by
  have h := itN_inv (h := fun k a => up a t (up (a t) k 0)) (a := it) (fun b a => ∀ j, j < b → a t j = 0) (fun j hj => absurd hj (Nat.not_lt_zero _)) (fun k c ih j hj => by
    show up c t (up (c t) k 0) t j = 0
    rw [up_eq]
    by_cases q : j = k
    · rw [q, up_eq]
    · rw [up_ne _ _ q]
      exact ih j (by omega)) b
  exact h k hk
theorem zer_ne (it : Nat → Nat → Int64) {t s : Nat} (hs : s ≠ t) (b : Nat) : zer it t b s = it s :=
  itN_inv (h := fun k a => up a t (up (a t) k 0)) (a := it) (fun _ a => a s = it s) rfl (fun k c ih => by
    show up c t (up (c t) k 0) s = it s
    rw [up_ne _ _ hs]
    exact ih) b
def zc (cl : Nat → Int64) (t : Nat) : Nat → Nat → Int64 := itN (fun k a => up a (60 * t + k) 0) cl
theorem zc_at (cl : Nat → Int64) (t : Nat) {b k : Nat} (hk : k < b) : zc cl t b (60 * t + k) = 0 := by
  have h := itN_inv (h := fun k a => up a (60 * t + k) 0) (a := cl) (fun b a => ∀ j, j < b → a (60 * t + j) = 0) (fun j hj => absurd hj (Nat.not_lt_zero _)) (fun k c ih j hj => by
    show up c (60 * t + k) 0 (60 * t + j) = 0
    by_cases q : j = k
    · rw [q, up_eq]
    · rw [up_ne _ _ (by omega)]
      exact ih j (by omega)) b
  exact h k hk
theorem zc_ne (cl : Nat → Int64) {t m b : Nat} (hm : m < 60 * t ∨ 60 * t + b ≤ m) : zc cl t b m = cl m := by
  have h := itN_inv (h := fun k a => up a (60 * t + k) 0) (a := cl) (fun b a => (m < 60 * t ∨ 60 * t + b ≤ m) → a m = cl m) (fun _ => rfl) (fun k c ih hq => by
    show up c (60 * t + k) 0 m = cl m
    rw [up_ne _ _ (by omega)]
    exact ih (by omega)) b
  exact h hm
theorem tape_loop {α : Type} {t : Nat} {n : Int} (ht : t < 6) (h0 : 0 ≤ n) (h6 : n ≤ 60) (R : (Nat → Int64) → Option α) (cl : Nat → Int64) (sz : Nat → Int) : lq2 (fun (n67 : Int → (Nat → Int64) → Option α) (v4 : Int) (c : Nat → Int64) => grd (iin (t : Int) 6) (if ltI v4 ((up sz (ix t) n) (ix t)) = true then (lv ((0 : Int64)) (fun x90 => grd (iin ((60 * (t : Int)) + v4) 360) (n67 (v4 + 1) (up c (ix ((60 * (t : Int)) + v4)) x90)))) else R c)) 300 0 cl = R (zc cl t n.toNat) := by
  obtain ⟨m, rfl⟩ := toN h0
  have e1 : iin (t : Int) 6 = true := iin_t (by omega) (by omega) (by omega)
  have e0 : ((m : Int)).toNat = m := by omega
  rw [e0]
  refine lq2_run (s1 := fun k => (k : Int)) (s2 := zc cl t) m (fun k hk nx => ?_) (fun nx => ?_) 300 0 (by omega) (by omega)
  · have e2 : iin (60 * (t : Int) + k) 360 = true := iin_t (by omega) (by omega) (by omega)
    have e3 : ix (60 * (t : Int) + k) = 60 * t + k := by rw [ix_eq (by omega) (by omega)]; omega
    rw [grd_s e1, up_eq, ltI_eq (by omega) (by omega) (by omega) (by omega), decide_eq_true (by omega), lv, grd_s e2, e3]
    rfl
  · rw [grd_s e1, up_eq, ltI_eq (by omega) (by omega) (by omega) (by omega), decide_eq_false (by omega)]
    rfl
