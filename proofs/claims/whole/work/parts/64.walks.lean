/-! PURE PART: walks along tight twos; depth -/
def WK (T : Nat → Nat → Prop) (s : Nat) : Nat → Nat → Prop
  | 0, x => x = s
  | k + 1, z => ∃ y, WK T s k y ∧ T y z
def RC (T : Nat → Nat → Prop) (s e x : Nat) : Prop := ∃ k, k % 2 = e ∧ WK T s k x
def RB (T : Nat → Nat → Prop) (s r e x : Nat) : Prop := ∃ k, k ≤ r ∧ k % 2 = e ∧ WK T s k x
def T5 (T : Nat → Nat → Prop) : Prop := ∀ y z, T y z → y < 5 ∧ z < 5
theorem WK_5 {T : Nat → Nat → Prop} {s : Nat} (hT : T5 T) (hs : s < 5) {k x : Nat} (h : WK T s k x) : x < 5 := by
  cases k with
  | zero =>
    have : x = s := h
    omega
  | succ k =>
    obtain ⟨y, h1, h2⟩ := h
    exact (hT y x h2).2
theorem WK_pre {T : Nat → Nat → Prop} {x y : Nat} (t : T x y) : ∀ (k : Nat) (z : Nat), WK T y k z → WK T x (k + 1) z
  | 0, z, h => by
    have : z = y := h
    subst this
    exact ⟨x, rfl, t⟩
  | k + 1, z, h => by
    obtain ⟨w, h1, h2⟩ := h
    exact ⟨w, WK_pre t k w h1, h2⟩
theorem WK_rev {T : Nat → Nat → Prop} (sy : ∀ x y, T x y → T y x) {x : Nat} : ∀ (k : Nat) (y : Nat), WK T x k y → WK T y k x
  | 0, y, h => Eq.symm h
  | k + 1, y, h => by
    obtain ⟨w, h1, h2⟩ := h
    exact WK_pre (sy w y h2) k x (WK_rev sy k w h1)
theorem WK_tr {T : Nat → Nat → Prop} {x y k : Nat} (h : WK T x k y) : ∀ (m : Nat) (z : Nat), WK T y m z → WK T x (k + m) z
  | 0, z, q => by
    have : z = y := q
    subst this
    exact h
  | m + 1, z, q => by
    obtain ⟨w, q1, q2⟩ := q
    exact ⟨w, WK_tr h m w q1, q2⟩
theorem sm_mono {f f' : Nat → Int} : ∀ n : Nat, (∀ i, i < n → f i ≤ f' i) → sm f n ≤ sm f' n
  | 0, _ => Int.le_refl _
  | n + 1, h => by
    rw [sm_s, sm_s]
    have := sm_mono n (fun i hi => h i (by omega))
    have := h n (by omega)
    omega
theorem sm_lt {f f' : Nat → Int} {k : Nat} : ∀ n : Nat, (∀ i, i < n → f i ≤ f' i) → k < n → f k < f' k → sm f n < sm f' n
  | 0, _, hk, _ => absurd hk (Nat.not_lt_zero _)
  | n + 1, h, hk, p => by
    rw [sm_s, sm_s]
    have a := h n (by omega)
    by_cases e : k = n
    · subst e
      have := sm_mono k (fun i hi => h i (by omega))
      omega
    · have := sm_lt n (fun i hi => h i (by omega)) (by omega) p
      omega
theorem ind_mono {p q : Prop} (h : p → q) : ind p ≤ ind q := by
  by_cases c : p
  · rw [ind_t c, ind_t (h c)]
    exact Int.le_refl _
  · rw [ind_f c]
    exact (ind_in q).1
/-- ten rounds come everywhere -/
theorem RB_all {T : Nat → Nat → Prop} {s : Nat} (hT : T5 T) (hs : s < 5) {e x : Nat} (h : RC T s e x) : RB T s 10 e x := by
  have step : ∀ r, (∀ e x, RB T s (r + 1) e x → RB T s r e x) ∨ (r : Int) + 1 ≤ sm (fun i => ind (RB T s r (i / 5) (i % 5))) 10 := by
    intro r
    induction r with
    | zero =>
      right
      have l := sm_pos (f := fun i => ind (RB T s 0 (i / 5) (i % 5))) (k := s) 10 (fun i _ => (ind_in _).1) (by omega) (by
        show 0 < ind (RB T s 0 (s / 5) (s % 5))
        rw [ind_t ⟨0, Nat.le_refl _, by omega, (by show s % 5 = s; omega)⟩]
        omega)
      show ((0 : Nat) : Int) + 1 ≤ _
      omega
    | succ r ih =>
      by_cases c : ∀ e x, RB T s (r + 1) e x → RB T s r e x
      · left
        intro e x ⟨k, k1, k2, k3⟩
        by_cases l : k ≤ r + 1
        · exact ⟨k, l, k2, k3⟩
        · have ek : k = r + 2 := by omega
          subst ek
          obtain ⟨y, w1, w2⟩ := k3
          obtain ⟨k', a1, a2, a3⟩ := c ((r + 1) % 2) y ⟨r + 1, Nat.le_refl _, rfl, w1⟩
          exact ⟨k' + 1, by omega, by omega, y, a3, w2⟩
      · right
        rcases ih with ih | ih
        · exact absurd ih c
        · have ⟨e, c2⟩ := Classical.not_forall.mp c
          have ⟨x, c3⟩ := Classical.not_forall.mp c2
          have ⟨c4, c5⟩ := Classical.not_imp.mp c3
          have x5 : x < 5 := by
            obtain ⟨k, k1, k2, k3⟩ := c4
            exact WK_5 hT hs k3
          have e2 : e < 2 := by
            obtain ⟨k, k1, k2, k3⟩ := c4
            omega
          have l := sm_lt (f := fun i => ind (RB T s r (i / 5) (i % 5))) (f' := fun i => ind (RB T s (r + 1) (i / 5) (i % 5))) (k := 5 * e + x) 10 (fun i _ => ind_mono (fun ⟨k, k1, k2, k3⟩ => ⟨k, by omega, k2, k3⟩)) (by omega) (by
            show ind (RB T s r ((5 * e + x) / 5) ((5 * e + x) % 5)) < ind (RB T s (r + 1) ((5 * e + x) / 5) ((5 * e + x) % 5))
            rw [show (5 * e + x) / 5 = e by omega, show (5 * e + x) % 5 = x by omega, ind_t c4, ind_f c5]
            omega)
          show ((r + 1 : Nat) : Int) + 1 ≤ _
          omega
  have cl : ∀ e x, RB T s 11 e x → RB T s 10 e x := by
    rcases step 10 with q | q
    · exact q
    · have := sm_le (f := fun i => ind (RB T s 10 (i / 5) (i % 5))) 10 (fun i _ => ind_in _)
      omega
  have all : ∀ k x, WK T s k x → RB T s 10 (k % 2) x := by
    intro k
    induction k with
    | zero => exact fun x h => ⟨0, by omega, rfl, h⟩
    | succ k ih =>
      intro x ⟨y, h1, h2⟩
      obtain ⟨k', a1, a2, a3⟩ := ih y h1
      exact cl _ _ ⟨k' + 1, by omega, by omega, y, a3, h2⟩
  obtain ⟨k, h1, h2⟩ := h
  have := all k x h2
  rw [h1] at this
  exact this
/-- walks' bits: bit x of E for an even, of O for an odd number of steps -/
def WB (T : Nat → Nat → Prop) (s : Nat) (b : Nat → Nat → Prop) : Prop := ∀ e x, x < 5 → b e x → RC T s e x
def WC (T : Nat → Nat → Prop) (s r : Nat) (b : Nat → Nat → Prop) : Prop := ∀ e x, RB T s r e x → b e x
def b10 (w : Nat) (e x : Nat) : Prop := e < 2 ∧ bq w (5 * e + x) = 1
theorem RC_T {T : Nat → Nat → Prop} {s e x y : Nat} (h : RC T s e x) (t : T x y) : RC T s (1 - e) y := by
  obtain ⟨k, h1, h2⟩ := h
  exact ⟨k + 1, by omega, x, h2, t⟩
theorem RB_s {T : Nat → Nat → Prop} {s r e x : Nat} (h : RB T s (r + 1) e x) : RB T s r e x ∨ (e < 2 ∧ ∃ y, RB T s r (1 - e) y ∧ T y x) := by
  obtain ⟨k, k1, k2, k3⟩ := h
  by_cases c : k ≤ r
  · exact Or.inl ⟨k, c, k2, k3⟩
  · have : k = r + 1 := by omega
    subst this
    obtain ⟨y, w1, w2⟩ := k3
    exact Or.inr ⟨by omega, y, ⟨r, Nat.le_refl _, by omega, w1⟩, w2⟩
theorem walks_X7 {n R s : Nat} {T : Nat → Nat → Prop} (h5 : n ≤ 5) (hR : R < 2 ^ 25) (hT : ∀ x y, x < 5 → y < 5 → (bq R (5 * x + y) = 1 ↔ T x y)) (tn : ∀ x y, T x y → x < n ∧ y < n) (hs : s < n) : wp (f_X7_walksFrom n R s) (fun r => ∃ w : Nat, r = w ∧ w < 1024 ∧ ∀ e x, e < 2 → x < 5 → (bq w (5 * e + x) = 1 ↔ RC T s e x)) := by
  have t5 : T5 T := fun y z h => ⟨by have := tn y z h; omega, by have := tn y z h; omega⟩
  unfold f_X7_walksFrom
  rw [one_shl (by omega)]
  refine w_lz ?_
  refine w_q2 (fun r u v => v = (r : Int) ∧ ∃ w : Nat, u = w ∧ w < 2 ^ 10 ∧ WB T s (b10 w) ∧ WC T s r (b10 w)) 10 0 ⟨rfl, _, rfl, one_lt (by omega), fun e x hx hb => ?_, fun e x hb => ?_⟩ (by omega) (by omega) (fun r hr u v hI nx hn => ?_) (fun u v hI nx => ?_)
  · have := (bq_one s (5 * e + x)).mp hb.2
    have := hb.1
    exact ⟨0, by omega, (by show x = s; omega)⟩
  · obtain ⟨k, k1, k2, k3⟩ := hb
    have : k = 0 := by omega
    subst this
    have ex : x = s := k3
    exact ⟨by omega, (bq_one s (5 * e + x)).mpr (by omega)⟩
  · obtain ⟨rfl, w, rfl, hw, t1, t2⟩ := hI
    refine w_ltT (by omega) ?_
    refine w_q2 (fun m u v => v = (m : Int) ∧ ∃ w : Nat, u = w ∧ w < 2 ^ 10 ∧ WB T s (b10 w) ∧ WC T s r (b10 w) ∧ ∀ y z e, y < m → RB T s r e y → T y z → b10 w (1 - e) z) n 0 ⟨rfl, w, rfl, hw, t1, t2, fun y z e hy => absurd hy (Nat.not_lt_zero _)⟩ (by omega) (by omega) (fun m hm u v hI ny hy => ?_) (fun u v hI ny => ?_)
    · obtain ⟨rfl, w, rfl, hw, u1, u2, u3⟩ := hI
      refine w_ltT (by omega) ?_
      obtain ⟨P, p1, p2, p3⟩ := partners_X7 hR (show m < 5 by omega)
      have pT : ∀ y, bq P y = 1 ↔ T m y := fun y => (p3 y).trans ⟨fun h => (hT m y (by omega) h.1).mp h.2, fun h => ⟨(t5 m y h).2, (hT m y (by omega) (t5 m y h).2).mpr h⟩⟩
      refine w_b1s p1 ?_
      refine w_j ?_
      rw [bit_at (by omega) (by omega), show (5 : Int) + (m : Int) = ((5 + m : Nat) : Int) by omega]
      have b1 := bq_c w m
      -- the second half, from any state that the first one leaves
      have half : ∀ w' : Nat, w' < 2 ^ 10 → WB T s (b10 w') → (∀ e x, b10 w e x → b10 w' e x) → (bq w m = 1 → ∀ z, T m z → b10 w' 1 z) → wp (jn (fun (v3_65 : Int) => ny v3_65 ((m : Int) + 1)) (fun (k65 : Int → Option Int) => if eqI (andI (shrI (w' : Int) ((5 + m : Nat) : Int)) 1) 1 = true then (lv ((orI (w' : Int) (P : Int))) (fun x64 => k65 x64)) else (k65 (w' : Int)))) (fun r => ∃ w : Nat, r = w ∧ w < 1024 ∧ ∀ e x, e < 2 → x < 5 → (bq w (5 * e + x) = 1 ↔ RC T s e x)) := by
        intro w' hw' v1 v2 v3
        refine w_j ?_
        rw [bit_at (by omega) (by omega)]
        have b2 := bq_c w' (5 + m)
        refine w_eq (by omega) (fun c => ?_) (fun c => ?_)
        · refine w_lz ?_
          rw [or_nat (by omega) (by omega)]
          have rc1 : RC T s 1 m := v1 1 m (by omega) ⟨by omega, by rw [show 5 * 1 + m = 5 + m by omega]; omega⟩
          refine hy _ _ ⟨by omega, _, rfl, Nat.or_lt_two_pow hw' (by omega), fun e x hx hb => ?_, fun e x hb => ?_, fun y z e hym hb ht => ?_⟩
          · obtain ⟨e2, hb⟩ := hb
            rcases (bq_or _ _ _).mp hb with q | q
            · exact v1 e x hx ⟨e2, q⟩
            · have l : 5 * e + x < 5 := ((p3 _).mp q).1
              have e0 : e = 0 := by omega
              subst e0
              have := (pT _).mp q
              rw [show 5 * 0 + x = x by omega] at this
              exact RC_T rc1 this
          · have q := v2 e x (u2 e x hb)
            exact ⟨q.1, (bq_or _ _ _).mpr (Or.inl q.2)⟩
          · by_cases ym : y = m
            · subst ym
              have q := u2 e y hb
              have e2 := q.1
              by_cases e0 : e = 0
              · subst e0
                have := v3 (by have := q.2; rw [show 5 * 0 + y = y by omega] at this; exact this) z ht
                exact ⟨this.1, (bq_or _ _ _).mpr (Or.inl this.2)⟩
              · have e1 : e = 1 := by omega
                subst e1
                refine ⟨by omega, (bq_or _ _ _).mpr (Or.inr ?_)⟩
                rw [show 5 * (1 - 1) + z = z by omega]
                exact (pT z).mpr ht
            · have q := v2 _ _ (u3 y z e (by omega) hb ht)
              exact ⟨q.1, (bq_or _ _ _).mpr (Or.inl q.2)⟩
        · refine hy _ _ ⟨by omega, w', rfl, hw', v1, fun e x hb => v2 e x (u2 e x hb), fun y z e hym hb ht => ?_⟩
          by_cases ym : y = m
          · subst ym
            have q := u2 e y hb
            have e2 := q.1
            by_cases e0 : e = 0
            · subst e0
              exact v3 (by have := q.2; rw [show 5 * 0 + y = y by omega] at this; exact this) z ht
            · have e1 : e = 1 := by omega
              subst e1
              have := (v2 1 y q).2
              rw [show 5 * 1 + y = 5 + y by omega] at this
              omega
          · exact v2 _ _ (u3 y z e (by omega) hb ht)
      refine w_eq (by omega) (fun c => ?_) (fun c => ?_)
      · have l2 : P <<< 5 < 2 ^ 10 := by
          rw [Nat.shiftLeft_eq]
          omega
        refine w_lz ?_
        rw [show (5 : Int) = ((5 : Nat) : Int) from rfl, shl_nat (by omega) (by omega) (by omega), or_nat (by omega) (by omega)]
        have rc0 : RC T s 0 m := u1 0 m (by omega) ⟨by omega, by rw [show 5 * 0 + m = m by omega]; omega⟩
        refine half _ (Nat.or_lt_two_pow hw l2) (fun e x hx hb => ?_) (fun e x hb => ⟨hb.1, (bq_or _ _ _).mpr (Or.inl hb.2)⟩) (fun _ z ht => ⟨by omega, (bq_or _ _ _).mpr (Or.inr ((bq_shl _ _ _).mpr ⟨by omega, ?_⟩))⟩)
        · obtain ⟨e2, hb⟩ := hb
          rcases (bq_or _ _ _).mp hb with q | q
          · exact u1 e x hx ⟨e2, q⟩
          · obtain ⟨q1, q2⟩ := (bq_shl _ _ _).mp q
            have e1 : e = 1 := by omega
            subst e1
            rw [show 5 * 1 + x - 5 = x by omega] at q2
            exact RC_T rc0 ((pT x).mp q2)
        · rw [show 5 * 1 + z - 5 = z by omega]
          exact (pT z).mpr ht
      · exact half w hw u1 (fun e x hb => hb) (fun q => by omega)
    · obtain ⟨rfl, w, rfl, hw, u1, u2, u3⟩ := hI
      refine w_ltF (by omega) ?_
      refine hn _ _ ⟨by omega, w, rfl, hw, u1, fun e x hb => ?_⟩
      rcases RB_s hb with q | ⟨e2, y, q1, q2⟩
      · exact u2 e x q
      · have := u3 y x (1 - e) (tn y x q2).1 q1 q2
        rw [show 1 - (1 - e) = e by omega] at this
        exact this
  · obtain ⟨rfl, w, rfl, hw, t1, t2⟩ := hI
    refine w_ltF (by omega) ?_
    refine w_s ⟨w, rfl, by omega, fun e x he hx => ⟨fun h => t1 e x hx ⟨he, h⟩, fun h => (t2 e x (RB_all t5 (by omega) h)).2⟩⟩
