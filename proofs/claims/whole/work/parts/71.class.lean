/-! PURE PART: the class's corners -/
def HL (h : Nat) (ks : Nat → Int64) (S : Nat → Prop) : Prop := ∃ c, SL h c S ∧ ∀ i, i < h → ks i = L6 (c i) ∧ c i < 2 ^ 35
theorem addW {n h : Nat} {nu : Nat → Int} {ks : Nat → Int64} {S : Nat → Prop} (h5 : n ≤ 5) (hf : F80 n nu) (hh : h < 37) (H : HL h ks S) : wp (f_X0_add h n nu ks) (fun o => ∃ h' : Nat, o.1 = h' ∧ h' ≤ h + 1 ∧ HL h' o.2 (fun v => S v ∨ v = kcode n nu)) := by
  obtain ⟨c, H1, H2⟩ := H
  refine w_m (add_X0 h5 hf hh H2 H1.1) (fun o ho => ?_)
  obtain ⟨h', c', e1, e2, e3⟩ := ho
  have := SL_ins H1 e2
  exact ⟨h', e1, this.2, c', this.1, e3⟩
def CSv (n : Nat) (g : Nat → Int) (v : Nat) : Prop := ∃ f, CORN n g f ∧ v = kcode n f
theorem needed_X7 {n x O : Nat} {g nu : Nat → Int} (h5 : n ≤ 5) (tg : Tb g) (hx : x < n) (hO : O < 32) (hr : ∀ y, y < n → bq O y = 1 → y ≠ x → -10000 ≤ nu y ∧ nu y ≤ 10000) : wp (f_X7_needed x O n g nu) (fun r => 0 ≤ r ∧ r ≤ 20000 ∧ (∀ y, y < n → y ≠ x → bq O y = 1 → 2 * g (5 * x + y) - nu y ≤ r) ∧ (r = 0 ∨ ∃ y, y < n ∧ y ≠ x ∧ bq O y = 1 ∧ r = 2 * g (5 * x + y) - nu y)) := by
  unfold f_X7_needed
  refine w_q2 (fun k r v => v = (k : Int) ∧ 0 ≤ r ∧ r ≤ 20000 ∧ (∀ y, y < k → y ≠ x → bq O y = 1 → 2 * g (5 * x + y) - nu y ≤ r) ∧ (r = 0 ∨ ∃ y, y < n ∧ y ≠ x ∧ bq O y = 1 ∧ r = 2 * g (5 * x + y) - nu y)) n 0 ⟨rfl, by omega, by omega, fa_0, Or.inl rfl⟩ (by omega) (by omega) (fun k hk r v hI nx hn => ?_) (fun r v hI nx => ?_)
  · obtain ⟨rfl, t1, t2, t3, t4⟩ := hI
    refine w_ltT (by omega) ?_
    refine w_j ?_
    refine w_eq (by omega) (fun c => hn _ _ ⟨by omega, t1, t2, fa_s t3 (fun q => absurd (by omega) q), t4⟩) (fun c => ?_)
    rw [bit_at (by omega) (by omega)]
    have b := bq_c O k
    refine w_eq (by omega) (fun c2 => ?_) (fun c2 => hn _ _ ⟨by omega, t1, t2, fa_s t3 (fun _ q => by omega), t4⟩)
    have rk := hr k hk (by omega) (by omega)
    refine w_gap tg (by omega) (fun z e l u => ?_)
    refine w_gi (by omega) ?_
    rw [ix_nat (show k < 2147483648 by omega)]
    refine w_l (fun m em => ?_)
    have mw := maxI_w (a := r) (b := 2 * z - nu k) (by omega)
    rw [← em] at mw
    refine hn _ _ ⟨by omega, by omega, by omega, fun y hy yx q => ?_, ?_⟩
    · by_cases e2 : y = k
      · subst e2
        omega
      · have := t3 y (by omega) yx q
        omega
    · rcases mw.2.2 with q | q
      · rw [q]
        exact t4
      · exact Or.inr ⟨k, hk, by omega, by omega, by omega⟩
  · obtain ⟨rfl, t1, t2, t3, t4⟩ := hI
    refine w_ltF (by omega) ?_
    exact w_s ⟨t1, t2, t3, t4⟩
theorem look_X0 {n x : Nat} {g nu : Nat → Int} (h5 : n ≤ 5) (tg : Tb g) (hx : x < n) : wp (f_X0_lookFrom x n g nu) (fun o => ∀ y, y < n → o y = eyf g x y) := by
  unfold f_X0_lookFrom
  refine w_q2 (fun k v o => v = (k : Int) ∧ ∀ y, y < k → o y = eyf g x y) n 0 ⟨rfl, fa_0⟩ (by omega) (by omega) (fun k hk v o hI nx hn => ?_) (fun v o hI nx => ?_)
  · obtain ⟨rfl, t1⟩ := hI
    refine w_ltT (by omega) ?_
    refine w_gap tg (by omega) (fun z e l u => ?_)
    refine w_l (fun w ew => ?_)
    refine w_gi (by omega) ?_
    rw [ix_nat (show k < 2147483648 by omega)]
    refine hn _ _ ⟨by omega, fun y hy => ?_⟩
    by_cases c : y = k
    · rw [c, up_eq, ew, e]
      rfl
    · rw [up_ne _ _ c]
      exact t1 y (by omega)
  · obtain ⟨rfl, t1⟩ := hI
    refine w_ltF (by omega) ?_
    exact w_s t1
theorem F80_c {n : Nat} {f f' : Nat → Int} (h : F80 n f) (e : ∀ x, x < n → f' x = f x) : F80 n f' := fun x hx => by
  rw [e x hx]
  exact h x hx
theorem eyes_X0 {n : Nat} {g nu : Nat → Int} {ks : Nat → Int64} (h5 : n ≤ 5) (tg : Tb g) (T : TAB n g) : wp (f_X0_addEyes 0 n g nu ks) (fun o => ∃ (h : Nat) (S : Nat → Prop), o.1 = h ∧ h ≤ 5 ∧ HL h o.2.2 S ∧ (∀ v, S v → CSv n g v) ∧ ∀ x, x < n → S (kcode n (eyf g x))) := by
  unfold f_X0_addEyes
  refine w_q4 (fun k v hI nu ks => v = (k : Int) ∧ ∃ (h : Nat) (S : Nat → Prop), hI = h ∧ h ≤ k ∧ HL h ks S ∧ (∀ v, S v → CSv n g v) ∧ ∀ x, x < k → S (kcode n (eyf g x))) n 0 ⟨rfl, 0, fun _ => False, rfl, Nat.le_refl _, ⟨fun _ => 0, SL_0, fun i hi => absurd hi (Nat.not_lt_zero _)⟩, fun v q => q.elim, fa_0⟩ (by omega) (by omega) (fun k hk v hh nu ks hI nx hn => ?_) (fun v hh nu ks hI nx => ?_)
  · obtain ⟨rfl, h, S, rfl, t1, t2, t3, t4⟩ := hI
    refine w_ltT (by omega) ?_
    refine w_b1 (look_X0 h5 tg hk) (fun o ho => ?_)
    have co := eye_corn h5 tg T hk
    refine w_b2 (addW h5 (F80_c co.1 ho) (by omega) t2) (fun a b hab => ?_)
    obtain ⟨h', e1, e2, e3⟩ := hab
    have ek : kcode n o = kcode n (eyf g k) := kcode_c ho
    refine hn _ _ _ _ ⟨by omega, h', _, e1, by omega, e3, fun v q => ?_, fun x hx => ?_⟩
    · rcases q with q | q
      · exact t3 v q
      · exact ⟨_, co, by rw [q, ek]⟩
    · by_cases e : x = k
      · rw [e]
        exact Or.inr ek.symm
      · exact Or.inl (t4 x (by omega))
  · obtain ⟨rfl, h, S, rfl, t1, t2, t3, t4⟩ := hI
    refine w_ltF (by omega) ?_
    exact w_s ⟨h, S, rfl, by omega, t2, t3, t4⟩
theorem EXT_c {t n x y z : Nat} {g F F' : Nat → Int} (hx : x < n) (hy : y < n) (hz : z < n) (e : ∀ i, i < n → F' i = F i) (E : EXT t n g F x y z) : EXT t n g F' x y z := by
  obtain ⟨⟨b1, b2, b3⟩, E2⟩ := E
  refine ⟨⟨by rw [e x hx]; exact b1, by rw [e y hy]; exact b2, by rw [e z hz]; exact b3⟩, fun i hi c => ?_⟩
  obtain ⟨n1, n2, n3⟩ := E2 i hi c
  refine ⟨by rw [e i hi]; exact n1, fun j hj ne P => by rw [e i hi, e j hj]; exact n2 j hj ne P, ?_⟩
  rcases n3 with q | ⟨j, j1, j2, j3, j4⟩
  · exact Or.inl (by rw [e i hi]; exact q)
  · exact Or.inr ⟨j, j1, j2, j3, by rw [e i hi, e j j1]; exact j4⟩
theorem three_X0 {n x y z h : Nat} {g nu : Nat → Int} {ks : Nat → Int64} {S : Nat → Prop} (h5 : n ≤ 5) (tg : Tb g) (T : TAB n g) (xy : x < y) (yz : y < z) (hz : z < n) (hh : h < 36) (H : HL h ks S) (HS : ∀ v, S v → CSv n g v) : wp (f_X0_addRoundOfThree x y z h n g nu ks) (fun o => ∃ (h' : Nat) (S' : Nat → Prop), o.1 = h' ∧ h' ≤ h + 2 ∧ HL h' o.2.2 S' ∧ (∀ v, S v → S' v) ∧ (∀ v, S' v → CSv n g v) ∧ (∃ F, EXT 0 n g F x y z ∧ S' (kcode n F)) ∧ ∃ F, EXT 1 n g F x y z ∧ S' (kcode n F)) := by
  unfold f_X0_addRoundOfThree
  refine w_gap tg (by omega) (fun r1 f1 l1 u1 => ?_)
  refine w_gap tg (by omega) (fun r2 f2 l2 u2 => ?_)
  refine w_gap tg (by omega) (fun r3 f3 l3 u3 => ?_)
  refine w_l (fun a1 g1 => ?_)
  refine w_gi (by omega) ?_
  refine w_l (fun a2 g2 => ?_)
  refine w_gi (by omega) ?_
  refine w_l (fun a3 g3 => ?_)
  refine w_gi (by omega) ?_
  rw [ix_nat (show x < 2147483648 by omega), ix_nat (show y < 2147483648 by omega), ix_nat (show z < 2147483648 by omega)]
  have b0 : B3 g (up (up (up nu x a1) y a2) z a3) x y z := by
    refine ⟨?_, ?_, ?_⟩
    · rw [up_ne _ _ (by omega), up_ne _ _ (by omega), up_eq]
      omega
    · rw [up_ne _ _ (by omega), up_eq]
      omega
    · rw [up_eq]
      omega
  refine w_q4 (fun t v hI nu ks => v = (t : Int) ∧ B3 g nu x y z ∧ ∃ (h' : Nat) (S' : Nat → Prop), hI = h' ∧ h' ≤ h + t ∧ HL h' ks S' ∧ (∀ v, S v → S' v) ∧ (∀ v, S' v → CSv n g v) ∧ ∀ u, u < t → ∃ F, EXT u n g F x y z ∧ S' (kcode n F)) 2 0 ⟨rfl, b0, h, S, rfl, by omega, H, fun v q => q, HS, fa_0⟩ (by omega) (by omega) (fun t ht v hI nu ks hJ nx hn => ?_) (fun v hI nu ks hJ nx => ?_)
  · obtain ⟨rfl, b3, h', S', rfl, t1, t2, t3, t4, t5⟩ := hJ
    refine w_ltT (by omega) ?_
    refine w_l (fun m em => ?_)
    have m1 : 1 <<< x < 2 ^ 5 := one_lt (by omega)
    have m2 : 1 <<< y < 2 ^ 5 := one_lt (by omega)
    have m3 : 1 <<< z < 2 ^ 5 := one_lt (by omega)
    have m4 := Nat.or_lt_two_pow m1 m2
    have m5 := Nat.or_lt_two_pow m4 m3
    rw [one_shl (by omega), one_shl (by omega), one_shl (by omega), or_nat (by omega) (by omega), or_nat (by omega) (by omega)] at em
    refine w_q3 (fun k O v F => v = (k : Int) ∧ B3 g F x y z ∧ ∃ M : Nat, O = M ∧ M < 2 ^ 5 ∧ (∀ j, j < n → (bq M j = 1 ↔ in3 x y z j ∨ rho t n j < k)) ∧ ∀ i, i < n → ¬ in3 x y z i → rho t n i < k → NDD n g F i (fun j => in3 x y z j ∨ rho t n j < rho t n i)) n 0 ⟨rfl, b3, _, em, m5, fun j hj => ?_, fun i _ _ q => absurd q (Nat.not_lt_zero _)⟩ (by omega) (by omega) (fun k hk O v F hK ny hy => ?_) (fun O v F hK ny => ?_)
    · rw [bq_or, bq_or, bq_one, bq_one, bq_one]
      unfold in3
      omega
    · obtain ⟨rfl, c3, M, rfl, hM, q1, q2⟩ := hK
      refine w_ltT (by omega) ?_
      refine w_j ?_
      have p1 : rho t n k < n := rho_lt hk
      have p2 : rho t n (rho t n k) = k := rho_rho hk
      have go : wp (jn (fun (v8_177 : Int) (this_numbers_177 : Nat → Int) => ny v8_177 ((k : Int) + 1) this_numbers_177) (fun (k177 : Int → (Nat → Int) → Option (Int × (Nat → Int) × (Nat → Int64))) => if eqI (andI (shrI (M : Int) ((rho t n k : Nat) : Int)) 1) 0 = true then (bd1 (f_X7_needed ((rho t n k : Nat) : Int) (M : Int) n g F) (fun r164 => grd (iin ((rho t n k : Nat) : Int) 5) (lv ((orI (M : Int) (shlI 1 ((rho t n k : Nat) : Int)))) (fun x175 => k177 x175 (up F (ix ((rho t n k : Nat) : Int)) r164))))) else (k177 (M : Int) F))) (fun o => ∃ (h' : Nat) (S' : Nat → Prop), o.1 = h' ∧ h' ≤ h + 2 ∧ HL h' o.2.2 S' ∧ (∀ v, S v → S' v) ∧ (∀ v, S' v → CSv n g v) ∧ (∃ F, EXT 0 n g F x y z ∧ S' (kcode n F)) ∧ ∃ F, EXT 1 n g F x y z ∧ S' (kcode n F)) := by
        generalize rho t n k = p at p1 p2
        refine w_j ?_
        rw [bit_at (by omega) (by omega)]
        have bp := bq_c M p
        have bp2 := q1 p p1
        refine w_eq (by omega) (fun c => ?_) (fun c => ?_)
        · have np : ¬ in3 x y z p := fun q => by
            have := bp2.mpr (Or.inl q)
            omega
          have c3' := c3
          obtain ⟨d1, d2, d3⟩ := c3'
          have rng : ∀ j, j < n → bq M j = 1 → 0 ≤ F j ∧ F j ≤ 10000 := by
            intro j hj bj
            have tt1 := TAB_t T (show x < n by omega) (show y < n by omega) hz
            have tt2 := TAB_t T (show y < n by omega) (show x < n by omega) hz
            have tt3 := TAB_t T (show x < n by omega) hz (show y < n by omega)
            have w1 := (tg x y (by omega) (by omega)).2.2.1
            have w2 := (tg x z (by omega) (by omega)).2.2.1
            have w3 := (tg y z (by omega) (by omega)).2.2.1
            have base : ∀ j, in3 x y z j → 0 ≤ F j ∧ F j ≤ 80 := by
              rintro j (rfl | rfl | rfl) <;> omega
            rcases (q1 j hj).mp bj with q | q
            · have := base j q
              omega
            · by_cases cj : in3 x y z j
              · have := base j cj
                omega
              · obtain ⟨n1, n2, n3⟩ := q2 j hj cj q
                rcases n3 with w | ⟨i, i1, i2, i3, i4⟩
                · omega
                · have pos : 0 ≤ F i := by
                    rcases i3 with i3 | i3
                    · exact (base i i3).1
                    · by_cases ci : in3 x y z i
                      · exact (base i ci).1
                      · exact (q2 i i1 ci (by omega)).1
                  have := tg j i (by omega) (by omega)
                  omega
          refine w_b1 (needed_X7 h5 tg p1 (by omega) (fun j hj bj _ => by have := rng j hj bj; omega)) (fun r hr => ?_)
          obtain ⟨r0, r1', r2', r3'⟩ := hr
          refine w_gi (by omega) ?_
          have m6 : 1 <<< p < 2 ^ 5 := one_lt (by omega)
          rw [one_shl (by omega), or_nat (by omega) (by omega), ix_nat (show p < 2147483648 by omega)]
          refine w_lz ?_
          refine hy _ _ _ ⟨by omega, ?_, _, rfl, Nat.or_lt_two_pow hM m6, fun j hj => ?_, fun i hi ci ri => ?_⟩
          · refine ⟨?_, ?_, ?_⟩
            · rw [up_ne _ _ (fun e => np (Or.inl e.symm))]
              exact d1
            · rw [up_ne _ _ (fun e => np (Or.inr (Or.inl e.symm)))]
              exact d2
            · rw [up_ne _ _ (fun e => np (Or.inr (Or.inr e.symm)))]
              exact d3
          · rw [bq_or, bq_one, q1 j hj]
            constructor
            · rintro ((q | q) | q)
              · exact Or.inl q
              · exact Or.inr (by omega)
              · exact Or.inr (by rw [q]; omega)
            · rintro (q | q)
              · exact Or.inl (Or.inl q)
              · by_cases e : rho t n j = k
                · right
                  have := rho_rho (t := t) hj
                  have := rho_rho (t := t) p1
                  rw [e] at *
                  rw [p2] at *
                  omega
                · exact Or.inl (Or.inr (by omega))
          · by_cases e : i = p
            · subst e
              refine ⟨by rw [up_eq]; exact r0, fun j hj ne P => ?_, ?_⟩
              · rw [up_eq, up_ne _ _ ne]
                exact r2' j hj ne ((q1 j hj).mpr (by rw [p2] at P; exact P))
              · rw [up_eq]
                rcases r3' with w | ⟨j, j1, j2, j3, j4⟩
                · exact Or.inl w
                · exact Or.inr ⟨j, j1, j2, by rw [p2]; exact (q1 j j1).mp j3, by rw [up_ne _ _ j2]; exact j4⟩
            · have rik : rho t n i ≠ k := fun e2 => by
                have := rho_rho (t := t) hi
                have := rho_rho (t := t) p1
                rw [e2] at *
                rw [p2] at *
                omega
              obtain ⟨n1, n2, n3⟩ := q2 i hi ci (by omega)
              have out : ∀ j, (in3 x y z j ∨ rho t n j < rho t n i) → j ≠ p := by
                intro j P e2
                subst e2
                rcases P with P | P
                · exact np P
                · omega
              refine ⟨by rw [up_ne _ _ e]; exact n1, fun j hj ne P => by rw [up_ne _ _ e, up_ne _ _ (out j P)]; exact n2 j hj ne P, ?_⟩
              rw [up_ne _ _ e]
              rcases n3 with w | ⟨j, j1, j2, j3, j4⟩
              · exact Or.inl w
              · exact Or.inr ⟨j, j1, j2, j3, by rw [up_ne _ _ (out j j3)]; exact j4⟩
        · have yp : in3 x y z p := by
            rcases bp2.mp (by omega) with q | q
            · exact q
            · omega
          refine hy _ _ _ ⟨by omega, c3, M, rfl, hM, fun j hj => ?_, fun i hi ci ri => ?_⟩
          · rw [q1 j hj]
            constructor
            · rintro (q | q)
              · exact Or.inl q
              · exact Or.inr (by omega)
            · rintro (q | q)
              · exact Or.inl q
              · by_cases e : rho t n j = k
                · left
                  have := rho_rho (t := t) hj
                  have := rho_rho (t := t) p1
                  rw [e] at *
                  rw [p2] at *
                  have ej : j = p := by omega
                  rw [ej]
                  exact yp
                · exact Or.inr (by omega)
          · refine q2 i hi ci ?_
            have : rho t n i ≠ k := fun e => by
              have := rho_rho (t := t) hi
              have := rho_rho (t := t) p1
              rw [e] at *
              rw [p2] at *
              have ei : i = p := by omega
              rw [ei] at ci
              exact ci yp
            omega
      have tt : t = 0 ∨ t = 1 := by omega
      rcases tt with rfl | rfl
      · refine w_eqT rfl ?_
        have e : ((rho 0 n k : Nat) : Int) = (k : Int) := rfl
        rw [e] at go
        exact go
      · refine w_eqF (by omega) ?_
        have e : ((rho 1 n k : Nat) : Int) = (n : Int) - 1 - (k : Int) := by
          show ((n - 1 - k : Nat) : Int) = _
          omega
        rw [e] at go
        exact go
    · obtain ⟨rfl, c3, M, rfl, hM, q1, q2⟩ := hK
      refine w_ltF (by omega) ?_
      have E : EXT t n g F x y z := ⟨c3, fun i hi ci => q2 i hi ci (rho_lt hi)⟩
      have f80 := EXT_80 h5 tg T (show x < n by omega) (show y < n by omega) hz E
      refine w_b2 (addW h5 f80 (by omega) t2) (fun a b hab => ?_)
      obtain ⟨h'', e1, e2, e3⟩ := hab
      refine hn _ _ _ _ ⟨by omega, c3, h'', _, e1, by omega, e3, fun v q => Or.inl (t3 v q), fun v q => ?_, fun u hu => ?_⟩
      · rcases q with q | q
        · exact t4 v q
        · exact ⟨F, EXT_corn h5 tg T (show x < n by omega) (show y < n by omega) hz (by omega) (by omega) (by omega) E, q⟩
      · by_cases e : u = t
        · rw [e]
          exact ⟨F, E, Or.inr rfl⟩
        · obtain ⟨F', w1, w2⟩ := t5 u (by omega)
          exact ⟨F', w1, Or.inl w2⟩
  · obtain ⟨rfl, b3, h', S', rfl, t1, t2, t3, t4, t5⟩ := hJ
    refine w_ltF (by omega) ?_
    exact w_s ⟨h', S', rfl, t1, t2, t3, t4, t5 0 (by omega), t5 1 (by omega)⟩
