/-! PURE PART: keepers alike; rounds -/
theorem keepers_same {n : Nat} {g far ord : Nat → Int} (h3 : 3 ≤ n) (h5 : n ≤ 5) (tg : Tb g) (tf : Tb far) (ag : Ag n g far) : ∃ r o, f_X4_keepers n g = some r ∧ f_X9_keepers n far ord = some (r, o) := by
  obtain ⟨⟨r, o⟩, e1, e2⟩ := keepers_X9 (ord := ord) h3 h5 tf
  refine ⟨r, o, ?_, e1⟩
  have e2' : r = sm (fun o => ind (ALLk n far (nxt n o))) (n ^ n) := e2
  rw [keepers_X4 h3 h5 tg, SR_sum (by omega) n 0 _ (by omega), e2']
  refine congrArg some (sm_c _ (fun o _ => ind_c ?_))
  have sl : ∀ x, x < n → nxt n o x < n := fun x _ => nxt_lt (by omega)
  rw [ALL_c (s' := nxt n o) (fun x hx => by unfold ext; rw [if_neg (by omega)]; rfl)]
  constructor
  · intro h x hx b hb
    have a := h x hx b hb
    have d1 := sl b (by omega)
    have d2 := sl x hx
    rw [ag _ _ (by omega) (by omega), ag b x (by omega) (by omega)] at a
    exact a
  · intro h x hx b hb
    have a := h x hx b hb
    have d1 := sl b (by omega)
    have d2 := sl x hx
    rw [← ag _ _ (by omega) (by omega), ← ag b x (by omega) (by omega)] at a
    exact a
def VL (n : Nat) : Nat → List Nat → Prop
  | _, [] => True
  | P, a :: l => 0 < a ∧ a < n ∧ bq P a = 0 ∧ VL n (P ||| 1 <<< a) l
def wl (g : Nat → Int) : Nat → List Nat → Int
  | f, [] => g (5 * f + 0)
  | f, a :: l => g (5 * f + a) + wl g a l
theorem and_1z {P k : Nat} : P &&& 1 <<< k = 0 ↔ bq P k = 0 := by
  have c := bq_c P k
  constructor
  · intro h
    have b := bq_and P (1 <<< k) k
    rw [h, bq_z, bq_one] at b
    omega
  · intro h
    refine bq_ext (fun z => ?_)
    rw [bq_and, bq_one, bq_z]
    constructor
    · rintro ⟨a, b⟩
      rw [b] at a
      omega
    · omega
theorem way_X4 {n : Nat} {g : Nat → Int} (h3 : 3 ≤ n) (h5 : n ≤ 5) (tg : Tb g) : ∀ (L dd f P : Nat), L < dd ∧ dd ≤ 8 → f < n → P < 32 → wp (f_X4_wayHome dd f P L n g) (fun r => 0 ≤ r ∧ r ≤ 1000 ∧ (∀ l : List Nat, l.length = L → VL n P l → r ≤ wl g f l) ∧ (r = 1000 ∨ ∃ l : List Nat, l.length = L ∧ VL n P l ∧ r = wl g f l))
  | L, 0, f, P, h, _, _ => absurd h.1 (Nat.not_lt_zero _)
  | 0, dd + 1, f, P, h, hf, hP => by
    unfold f_X4_wayHome
    refine w_ltF (by omega) ?_
    refine w_gap (j := 0) tg (by omega) (fun r e l u => ?_)
    refine w_s ⟨l, by omega, fun l' hl _ => ?_, Or.inr ⟨[], rfl, trivial, e⟩⟩
    have : l' = [] := List.length_eq_zero_iff.mp hl
    subst this
    rw [e]
    exact Int.le_refl _
  | L + 1, dd + 1, f, P, h, hf, hP => by
    unfold f_X4_wayHome
    refine w_ltT (by omega) ?_
    refine w_q2 (fun k u v => v = (k : Int) ∧ 0 < k ∧ 0 ≤ u ∧ u ≤ 1000 ∧ (∀ a, a < k → 0 < a → bq P a = 0 → ∀ l : List Nat, l.length = L → VL n (P ||| 1 <<< a) l → u ≤ g (5 * f + a) + wl g a l) ∧ (u = 1000 ∨ ∃ l : List Nat, l.length = L + 1 ∧ VL n P l ∧ u = wl g f l)) n 1 ⟨rfl, by omega, by omega, by omega, fun a ha q => absurd ha (by omega), Or.inl rfl⟩ (by omega) (by omega) (fun k hk u v hI nx hn => ?_) (fun u v hI nx => ?_)
    · obtain ⟨rfl, k0, t1, t2, t3, t4⟩ := hI
      have l1 : 1 <<< k < 2 ^ 5 := one_lt (by omega)
      have l2 : P &&& 1 <<< k ≤ P := Nat.and_le_left
      have l3 := Nat.or_lt_two_pow (n := 5) (show P < 2 ^ 5 by omega) l1
      refine w_ltT (by omega) ?_
      refine w_j ?_
      rw [one_shl (by omega), and_nat (by omega) (by omega), or_nat (by omega) (by omega)]
      refine w_eq (by omega) (fun c => ?_) (fun c => ?_)
      · have bk : bq P k = 0 := and_1z.mp (by omega)
        refine w_gap tg (by omega) (fun r1 e1 m1 m2 => ?_)
        rw [show ((L + 1 : Nat) : Int) - 1 = (L : Int) by omega]
        refine w_b1 (way_X4 h3 h5 tg L dd k (P ||| 1 <<< k) (by omega) hk (by omega)) (fun r2 hr2 => ?_)
        obtain ⟨s1, s2, s3, s4⟩ := hr2
        refine w_l (fun y ey => ?_)
        refine w_l (fun z ez => ?_)
        have mw := minI_w (a := u) (b := y) (by omega)
        rw [← ez] at mw
        refine hn _ _ ⟨by omega, by omega, by omega, by omega, fun a ha a0 ba l hl hv => ?_, ?_⟩
        · by_cases e : a = k
          · subst e
            have := s3 l hl hv
            omega
          · have := t3 a (by omega) a0 ba l hl hv
            omega
        · by_cases zu : z = u
          · rw [zu]
            exact t4
          · have zy : z = y := by omega
            rcases s4 with q | ⟨l, q1, q2, q3⟩
            · omega
            · refine Or.inr ⟨k :: l, by rw [List.length_cons, q1], ⟨k0, hk, bk, q2⟩, ?_⟩
              show z = g (5 * f + k) + wl g k l
              omega
      · have bk : ¬ bq P k = 0 := fun q => c (by rw [and_1z.mpr q]; rfl)
        refine hn _ _ ⟨by omega, by omega, t1, t2, fun a ha a0 ba l hl hv => ?_, t4⟩
        by_cases e : a = k
        · subst e
          exact absurd ba bk
        · exact t3 a (by omega) a0 ba l hl hv
    · obtain ⟨rfl, k0, t1, t2, t3, t4⟩ := hI
      refine w_ltF (by omega) ?_
      refine w_s ⟨t1, t2, fun l hl hv => ?_, t4⟩
      cases l with
      | nil => exact absurd hl (by simp)
      | cons a l =>
        have hl' : l.length = L := by rw [List.length_cons] at hl; omega
        obtain ⟨v1, v2, v3, v4⟩ := hv
        exact t3 a v2 v1 v3 l hl' v4
