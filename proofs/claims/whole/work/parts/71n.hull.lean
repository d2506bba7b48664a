/-! PURE PART: corner, two; statements over the hull -/
theorem rem100 {r : Int} (h : 0 ≤ r ∧ r ≤ 15) : remI r 100 = r ∧ remI (100 + r) 100 = r := by
  obtain ⟨k, rfl⟩ := toN h.1
  have a := rem_nat (a := k) (b := 100) (by omega) (by omega)
  have b := rem_nat (a := 100 + k) (b := 100) (by omega) (by omega)
  constructor
  · show remI (k : Int) ((100 : Nat) : Int) = _
    rw [a]
    omega
  · have e : (100 : Int) + (k : Int) = ((100 + k : Nat) : Int) := by omega
    rw [e]
    show remI ((100 + k : Nat) : Int) ((100 : Nat) : Int) = _
    rw [b]
    omega
theorem corner_both {n : Nat} {p1 p2 fol there held s c0 : Int} {g nu tw d far cor nm t0 : Nat → Int} {kx : Nat → Int64} (g1 : rg p1) (g2 : rg p2) (h3 : 3 ≤ n) (h5 : n ≤ 5) (H : HuOk fol there held s g kx tw) (td : Tb d) (tf : Tb far) (ag : Ag n d far) : wp (f_X8_corner p1 p2 n d fol there held s g nu kx tw) (fun o => HO o ∧ wp (f_X9_corner p1 p2 n c0 far cor nm t0) (fun u => u.1 = o.1)) := by
  obtain ⟨g21, g22⟩ := id g2
  unfold f_X8_corner f_X9_corner
  refine w_b9 (refusal_X8 g1 H h3 h5 td ag) (fun r a1 a2 a3 a4 a5 a6 a7 a8 ha => ?_)
  obtain ⟨q1, q2, q3⟩ := ha
  rcases q3 with ⟨z1, z2⟩ | ⟨z2, h, c, z3, z4⟩
  · have z1' : r = -3 := z1
    subst z1'
    refine w_eqF (by omega) ?_
    refine w_s ⟨q1, ?_⟩
    exact w_ref h3 h5 tf (fun _ a b c d => w_eqT rfl (w_s rfl)) (fun q => absurd q z2)
  · rcases z4 with ⟨y1, y2⟩ | ⟨y1, y2⟩
    · have y1' : r = -1 := y1
      subst y1'
      refine w_eqF (by omega) ?_
      refine w_s ⟨q1, ?_⟩
      refine w_refn h3 h5 tf z2 z3.2.2.1 z3.2.1 g1 y2 (fun a b c' d => ?_)
      refine w_j ?_
      exact w_eqT rfl (w_s rfl)
    · have y1' : r = 0 := y1
      subst y1'
      obtain ⟨i, rfl⟩ := toN y2.1
      have eh : a3 = h := z3.1
      have es : a4 = n := q2
      have Z : HC n far h c a3 a7 a8 := z3
      have hi : i < h := by omega
      have h37 := z3.2.1
      obtain ⟨R, eR, hR, hM⟩ := z3.2.2.2.2.1 i hi
      have eR' : a8 i = (R : Int) := eR
      refine w_eqT rfl ?_
      refine w_eq (by omega) (fun c1 => ?_) (fun c1 => ?_)
      · refine w_b1s (twosAt_X0 eh hi h37) ?_
        rw [eR']
        refine w_b1 (many_X7 (T := CMp n far (cf (c i)) (cf (c i))) h3 h5 hR (fun x y hx hy => (hM x y hx hy).trans ⟨fun q => ⟨q.1, q.2.1, q.2.2, q.2.2⟩, fun q => ⟨q.1, q.2.1, q.2.2.1⟩⟩) (fun x y q => ⟨q.1, q.2.1⟩) (fun x y q => CMp_sym h5 tf q)) (fun b hb => ?_)
        refine w_s ⟨q1, w_refc h3 h5 tf z2 z3.2.2.1 h37 g1 y2 (fun a b' c' d hr => ?_)⟩
        refine w_j ?_
        refine w_eqF (by omega) ?_
        refine w_b1s (in_X9 g2 ⟨by omega, by omega⟩ ⟨by omega, by omega⟩) ?_
        refine w_B (fun z => absurd (by omega) z) (fun _ => ?_)
        refine w_eqF (by omega) ?_
        refine w_j ?_
        refine w_eqT c1 ?_
        refine w_b1 (common_X9 h3 h5 tf (cf_r _ n) (cf_r _ n) (by omega) (by omega) (fun x hx => hr.2 i hi x hx) (fun x hx => hr.2 i hi x hx)) (fun r hr2 => ?_)
        refine w_gn (by omega) ?_
        have ci := CNT_in h3 h5 (CMp n far (cf (c i)) (cf (c i)))
        have rm := rem100 ci
        refine w_s ?_
        show remI r 100 = b
        rw [hb]
        by_cases cv : COV n (CMp n far (cf (c i)) (cf (c i)))
        · rw [hr2.1 cv]
          exact rm.2
        · rw [hr2.2 cv]
          exact rm.1
      refine w_eq (by omega) (fun c2 => ?_) (fun c2 => ?_)
      · have nb : wp (f_X0_neighbours (i : Int) a3 a4 a8) (fun r => r = NB n far h c i) := by
          rw [es]
          exact neigh_X0 h5 Z hi
        refine w_b1 nb (fun b hb => ?_)
        refine w_s ⟨q1, w_refc h3 h5 tf z2 z3.2.2.1 h37 g1 y2 (fun a b' c' d hr => ?_)⟩
        refine w_j ?_
        refine w_eqF (by omega) ?_
        refine w_b1s (in_X9 g2 ⟨by omega, by omega⟩ ⟨by omega, by omega⟩) ?_
        refine w_B (fun z => absurd (by omega) z) (fun _ => ?_)
        refine w_eqT c2 ?_
        have er := hr.1
        refine w_q2 (fun k u v => v = (k : Int) ∧ u = sm (fun o => ind (BS n far h c i o)) k) h 0 ⟨rfl, rfl⟩ (by omega) (by omega) (fun k hk u v hI nx hn => ?_) (fun u v hI nx => ?_)
        · obtain ⟨rfl, t1⟩ := hI
          have ss := sm_s (fun o => ind (BS n far h c i o)) k
          refine w_ltT (by omega) ?_
          refine w_b1 (beside_X9 h3 h5 tf h37 hr hi hk) (fun r hr => ?_)
          refine w_j ?_
          refine w_bI hr (fun no _ => w_lz (hn _ _ ⟨by omega, by rw [ss, ind_f no, t1]⟩)) (fun yes _ => w_lz (hn _ _ ⟨by omega, by rw [ss, ind_t yes, t1]⟩))
        · obtain ⟨rfl, t1⟩ := hI
          refine w_ltF (by omega) ?_
          refine w_s ?_
          show u = b
          rw [hb, t1]
          rfl
      refine w_eq (by omega) (fun c3 => ?_) (fun c3 => ?_)
      · refine w_b1 (owner_X0 h3 h5 tf z2 Z hi es) (fun b hb => ?_)
        refine w_s ⟨q1, w_refc h3 h5 tf z2 z3.2.2.1 h37 g1 y2 (fun a b' c' d hr => ?_)⟩
        refine w_j ?_
        refine w_eqF (by omega) ?_
        refine w_b1s (in_X9 g2 ⟨by omega, by omega⟩ ⟨by omega, by omega⟩) ?_
        refine w_B (fun z => absurd (by omega) z) (fun _ => ?_)
        refine w_eqF (by omega) ?_
        refine w_j ?_
        refine w_eqF (by omega) ?_
        refine w_b1 (eyeOf_X9 h5 tf h37 hr hi) (fun r hr2 => ?_)
        exact w_s (FO_u hr2 hb)
      · refine w_s ⟨q1, w_refc h3 h5 tf z2 z3.2.2.1 h37 g1 y2 (fun a b' c' d hr => ?_)⟩
        refine w_j ?_
        refine w_eqF (by omega) ?_
        refine w_b1s (in_X9 g2 ⟨by omega, by omega⟩ ⟨by omega, by omega⟩) ?_
        exact w_B (fun _ => w_s rfl) (fun z => absurd z (by omega))
/-- how far apart, among the first points -/
def apf (f f' : Nat → Int) : Nat → Int
  | 0 => 0
  | k + 1 => mxx (apf f f' k) (if f k - f' k < 0 then f' k - f k else f k - f' k)
theorem apf_in (K K' : Nat) : ∀ k, 0 ≤ apf (cf K) (cf K') k ∧ apf (cf K) (cf K') k ≤ 127
  | 0 => ⟨Int.le_refl _, by show (0 : Int) ≤ 127; omega⟩
  | k + 1 => by
    have ih := apf_in K K' k
    have a : dec K k < 128 := Nat.mod_lt _ (by omega)
    have b : dec K' k < 128 := Nat.mod_lt _ (by omega)
    have m := mxx_w (apf (cf K) (cf K') k) (if cf K k - cf K' k < 0 then cf K' k - cf K k else cf K k - cf K' k)
    show 0 ≤ mxx _ _ ∧ mxx _ _ ≤ 127
    unfold cf at *
    split at m <;> split <;> omega
theorem apart_X0 {n h i j : Nat} {held s : Int} {far : Nat → Int} {c : Nat → Nat} {kx : Nat → Int64} {tw : Nat → Int} (h3 : 3 ≤ n) (h5 : n ≤ 5) (Z : HC n far h c held kx tw) (hi : i < h) (hj : j < h) (es : s = n) : wp (f_X0_apart i j held s kx) (fun r => r = apf (cf (c i)) (cf (c j)) n) := by
  obtain ⟨z1, z2, z3, z4, z5, z6⟩ := Z
  have ki := z4 i hi
  have kj := z4 j hj
  unfold f_X0_apart
  rw [z1, es]
  refine w_q2 (fun k u v => v = (k : Int) ∧ u = apf (cf (c i)) (cf (c j)) k) n 0 ⟨rfl, rfl⟩ (by omega) (by omega) (fun k hk u v hI nx hn => ?_) (fun u v hI nx => ?_)
  · obtain ⟨rfl, t1⟩ := hI
    have a : dec (c i) k < 128 := Nat.mod_lt _ (by omega)
    have b : dec (c j) k < 128 := Nat.mod_lt _ (by omega)
    have ai := apf_in (c i) (c j) k
    refine w_ltT (by omega) ?_
    refine w_b1s (number_X0 h5 h3 hi z2 hk ki.1 ki.2) ?_
    refine w_b1s (number_X0 h5 h3 hj z2 hk kj.1 kj.2) ?_
    refine w_lz ?_
    refine hn _ _ ⟨by omega, ?_⟩
    have ea : absI ((dec (c i) k : Int) - (dec (c j) k : Int)) = (if cf (c i) k - cf (c j) k < 0 then cf (c j) k - cf (c i) k else cf (c i) k - cf (c j) k) := by
      unfold absI cf
      rw [ltI_eq (by omega) (by omega) (by omega) (by omega)]
      by_cases q : (dec (c i) k : Int) - (dec (c j) k : Int) < 0
      · rw [decide_eq_true q, if_pos rfl, if_pos q]
        omega
      · rw [decide_eq_false q, if_neg (by decide), if_neg q]
    rw [ea, mxx_max (by unfold cf; split <;> omega), t1]
    rfl
  · obtain ⟨rfl, t1⟩ := hI
    refine w_ltF (by omega) ?_
    exact w_s t1
theorem two_both {n : Nat} {p1 p2 p3 fol there held s c0 : Int} {g nu tw d far cor nm t0 : Nat → Int} {kx : Nat → Int64} (g1 : rg p1) (g2 : rg p2) (g3 : rg p3) (h3 : 3 ≤ n) (h5 : n ≤ 5) (H : HuOk fol there held s g kx tw) (td : Tb d) (tf : Tb far) (ag : Ag n d far) : wp (f_X8_two p1 p2 p3 n d fol there held s g nu kx tw) (fun o => HO o ∧ wp (f_X9_two p1 p2 p3 n c0 far cor nm t0) (fun u => u.1 = o.1)) := by
  obtain ⟨g31, g32⟩ := id g3
  unfold f_X8_two f_X9_two
  refine w_b9 (refusal_X8 g1 H h3 h5 td ag) (fun r a1 a2 a3 a4 a5 a6 a7 a8 ha => ?_)
  obtain ⟨q1, q2, q3⟩ := ha
  refine w_j ?_
  rcases q3 with ⟨z1, z2⟩ | ⟨z2, h, c, z3, z4⟩
  · have z1' : r = -3 := z1
    subst z1'
    refine w_eqF (by omega) ?_
    refine w_eqF (by omega) ?_
    refine w_s ⟨q1, ?_⟩
    exact w_ref h3 h5 tf (fun _ a b c d => w_eqT rfl (w_s rfl)) (fun q => absurd q z2)
  · rcases z4 with ⟨y1, y2⟩ | ⟨y1, y2⟩
    · have y1' : r = -1 := y1
      subst y1'
      refine w_eqF (by omega) ?_
      refine w_eqF (by omega) ?_
      refine w_s ⟨q1, ?_⟩
      refine w_refn h3 h5 tf z2 z3.2.2.1 z3.2.1 g1 y2 (fun a b c' d => ?_)
      refine w_j ?_
      exact w_eqT rfl (w_s rfl)
    · have y1' : r = 0 := y1
      subst y1'
      refine w_eqT rfl ?_
      have q1' : HuOk a1 a2 a3 a4 a5 a7 a8 := q1
      refine w_b9 (refusal_X8 g2 q1' h3 h5 td ag) (fun r b1 b2 b3 b4 b5 b6 b7 b8 hb => ?_)
      obtain ⟨p1', p2', p3'⟩ := hb
      rcases p3' with ⟨w1, w2⟩ | ⟨_, h', c', w3, w4⟩
      · exact absurd z2 w2
      have u := SL_u z3.2.2.1 w3.2.2.1
      have eh' : h' = h := u.1.symm
      subst eh'
      have h37 := w3.2.1
      rcases w4 with ⟨x1, x2⟩ | ⟨x1, x2⟩
      · have x1' : r = -1 := x1
        subst x1'
        refine w_eqF (by omega) ?_
        refine w_s ⟨p1', ?_⟩
        refine w_refc h3 h5 tf z2 w3.2.2.1 h37 g1 y2 (fun a b c'' d hr => ?_)
        refine w_j ?_
        refine w_eqF (by omega) ?_
        rw [hr.1]
        refine w_b1s (isCorner_X9 g2 h37) ?_
        exact w_B (fun _ => w_s rfl) (fun z => absurd z x2)
      · have x1' : r = 0 := x1
        subst x1'
        obtain ⟨i, rfl⟩ := toN y2.1
        obtain ⟨j, rfl⟩ := toN x2.1
        have hi : i < h' := by omega
        have hj : j < h' := by omega
        have eh : b3 = h' := w3.1
        have es : b4 = n := p2'
        have Z : HC n far h' c' b3 b7 b8 := w3
        obtain ⟨Ra, ea, Ma⟩ := w3.2.2.2.2.1 i hi
        obtain ⟨Rb, eb, Mb⟩ := w3.2.2.2.2.1 j hj
        have ea' : b8 i = (Ra : Int) := ea
        have eb' : b8 j = (Rb : Int) := eb
        have cb := cell_bits Ma Mb
        have la := Ma.1
        have lb := Mb.1
        refine w_eqT rfl ?_
        refine w_eq (by omega) (fun c1 => ?_) (fun c1 => ?_)
        · refine w_b1 (apart_X0 h3 h5 Z hi hj es) (fun b hb => ?_)
          refine w_s ⟨p1', w_refc h3 h5 tf z2 w3.2.2.1 h37 g1 y2 (fun a b' c'' d hr => ?_)⟩
          refine w_j ?_
          refine w_eqF (by omega) ?_
          have hr' := hr.1
          rw [hr']
          refine w_b1s (isCorner_X9 g2 h37) ?_
          refine w_B (fun z => absurd x2 z) (fun _ => ?_)
          refine w_b1s (in_X9 g3 ⟨by omega, by omega⟩ ⟨by omega, by omega⟩) ?_
          refine w_B (fun z => absurd (by omega) z) (fun _ => ?_)
          refine w_ltF (by omega) ?_
          refine w_q2 (fun k u v => v = (k : Int) ∧ u = apf (cf (c' i)) (cf (c' j)) k) n 0 ⟨rfl, rfl⟩ (by omega) (by omega) (fun k hk u v hI nx hn => ?_) (fun u v hI nx => ?_)
          · obtain ⟨rfl, t1⟩ := hI
            have da : dec (c' i) k < 128 := Nat.mod_lt _ (by omega)
            have db : dec (c' j) k < 128 := Nat.mod_lt _ (by omega)
            have ai := apf_in (c' i) (c' j) k
            refine w_ltT (by omega) ?_
            rw [show (5 * (i : Int) + (k : Int)) = ((5 * i + k : Nat) : Int) by omega, show (5 * (j : Int) + (k : Int)) = ((5 * j + k : Nat) : Int) by omega]
            refine w_gi (by omega) ?_
            refine w_gi (by omega) ?_
            rw [ix_nat (show 5 * i + k < 2147483648 by omega), ix_nat (show 5 * j + k < 2147483648 by omega), hr.2 i hi k hk, hr.2 j hj k hk]
            refine w_l (fun y ey => ?_)
            have mw := maxI_w (a := y) (b := -y) (by unfold cf at ey; omega)
            have em : maxI y (-y) = (if cf (c' i) k - cf (c' j) k < 0 then cf (c' j) k - cf (c' i) k else cf (c' i) k - cf (c' j) k) := by
              unfold cf at *
              split <;> omega
            refine w_l (fun w ew => ?_)
            rw [em, mxx_max (by unfold cf; split <;> omega), t1] at ew
            exact hn _ _ ⟨by omega, ew⟩
          · obtain ⟨rfl, t1⟩ := hI
            refine w_ltF (by omega) ?_
            refine w_s ?_
            show u = b
            rw [hb, t1]
        refine w_eq (by omega) (fun c2 => ?_) (fun c2 => ?_)
        · have nb : wp (f_X0_areBeside (i : Int) (j : Int) b3 b4 b8) (fun r => bI r (BS n far h' c' i j)) := by
            rw [es]
            exact beside_X0 h5 Z hi hj
          refine w_b1 nb (fun b hb => ?_)
          refine w_b1s (oneIf_X8 (bI_or hb)) ?_
          refine w_s ⟨p1', w_refc h3 h5 tf z2 w3.2.2.1 h37 g1 y2 (fun a b' c'' d hr => ?_)⟩
          refine w_j ?_
          refine w_eqF (by omega) ?_
          have hr' := hr.1
          refine w_b1s (show f_X9_isCorner (j : Int) a = _ by rw [hr']; exact isCorner_X9 g2 h37) ?_
          refine w_B (fun z => absurd x2 z) (fun _ => ?_)
          refine w_b1s (in_X9 g3 ⟨by omega, by omega⟩ ⟨by omega, by omega⟩) ?_
          refine w_B (fun z => absurd (by omega) z) (fun _ => ?_)
          refine w_ltT (by omega) ?_
          refine w_j ?_
          refine w_eqF (by omega) ?_
          refine w_b1 (beside_X9 h3 h5 tf h37 hr hi hj) (fun r hr2 => ?_)
          refine b01_id (bI_or hr2) (k := fun s0_72 => some (s0_72, a, b', c'', d)) ?_
          exact w_s (bI_u hr2 hb)
        refine w_eq (by omega) (fun c3 => ?_) (fun c3 => ?_)
        · refine w_b1s (twosAt_X0 eh hi h37) ?_
          refine w_b1s (twosAt_X0 eh hj h37) ?_
          rw [ea', eb', and_nat (by omega) (by omega)]
          refine w_b1 (many_X7 (T := CMp n far (cf (c' i)) (cf (c' j))) h3 h5 cb.1 cb.2 (fun x y q => ⟨q.1, q.2.1⟩) (fun x y q => CMp_sym h5 tf q)) (fun b hb => ?_)
          refine w_s ⟨p1', w_refc h3 h5 tf z2 w3.2.2.1 h37 g1 y2 (fun a b' c'' d hr => ?_)⟩
          refine w_j ?_
          refine w_eqF (by omega) ?_
          have hr' := hr.1
          refine w_b1s (show f_X9_isCorner (j : Int) a = _ by rw [hr']; exact isCorner_X9 g2 h37) ?_
          refine w_B (fun z => absurd x2 z) (fun _ => ?_)
          refine w_b1s (in_X9 g3 ⟨by omega, by omega⟩ ⟨by omega, by omega⟩) ?_
          refine w_B (fun z => absurd (by omega) z) (fun _ => ?_)
          refine w_ltT (by omega) ?_
          refine w_j ?_
          refine w_eqT c3 ?_
          refine w_b1 (common_X9 h3 h5 tf (cf_r _ n) (cf_r _ n) (by omega) (by omega) (fun x hx => hr.2 i hi x hx) (fun x hx => hr.2 j hj x hx)) (fun r hr2 => ?_)
          refine w_gn (by omega) ?_
          have ci := CNT_in h3 h5 (CMp n far (cf (c' i)) (cf (c' j)))
          have rm := rem100 ci
          refine w_s ?_
          show remI r 100 = b
          rw [hb]
          by_cases cv : COV n (CMp n far (cf (c' i)) (cf (c' j)))
          · rw [hr2.1 cv]
            exact rm.2
          · rw [hr2.2 cv]
            exact rm.1
        · refine w_s ⟨p1', w_refc h3 h5 tf z2 w3.2.2.1 h37 g1 y2 (fun a b' c'' d hr => ?_)⟩
          refine w_j ?_
          refine w_eqF (by omega) ?_
          have hr' := hr.1
          refine w_b1s (show f_X9_isCorner (j : Int) a = _ by rw [hr']; exact isCorner_X9 g2 h37) ?_
          refine w_B (fun z => absurd x2 z) (fun _ => ?_)
          refine w_b1s (in_X9 g3 ⟨by omega, by omega⟩ ⟨by omega, by omega⟩) ?_
          exact w_B (fun _ => w_s rfl) (fun z => absurd z (by omega))
theorem st_15 {x : Nat → Int} {X : Nat → Nat → Int} {kx : Nat → Int64} {it : Nat → Nat → Int64} {F : Nat → Int} {B : Nat → Nat → Int} {cl bt : Nat → Int64} (h : Rel x X kx it F B cl bt) (p1 : Int) (g1 : rg p1) (p2 : Int) (g2 : rg p2) : ∃ (r : Int) (o0 : Int) (o1 : Int) (o2 : Int) (o3 : Int) (o4 : Nat → Int) (o5 : Nat → Int) (o6 : Nat → Int64) (o7 : Nat → Int) (o0' : Int) (o1' : Nat → Int) (o2' : Nat → Int) (o3' : Nat → Int), f_X8_corner p1 p2 (x 1) (X 0) (x 19) (x 20) (x 21) (x 22) (X 16) (X 17) kx (X 18) = some (r, o0, o1, o2, o3, o4, o5, o6, o7) ∧ f_X9_corner p1 p2 (F 0) (F 23) (B 1) (B 24) (B 25) (B 26) = some (r, o0', o1', o2', o3') ∧ Rel (up (up (up (up x 19 o0) 20 o1) 21 o2) 22 o3) (up (up (up X 16 o4) 17 o5) 18 o7) o6 it (up F 23 o0') (up (up (up B 24 o1') 25 o2') 26 o3') cl bt := by
  obtain ⟨⟨⟨e0, h3, h5, tg, tf, ag⟩, hNu, hMp, hSe, hEv, hBo⟩, hC, hI, hSp, hHu, hT, hTa⟩ := h
  obtain ⟨n, hn⟩ := toN (show 0 ≤ x 1 by omega)
  have ag' : Ag n (X 0) (B 1) := hn ▸ ag
  have n3 : 3 ≤ n := by omega
  have n5 : n ≤ 5 := by omega
  obtain ⟨⟨r, o0, o1, o2, o3, o4, o5, o6, o7⟩, e1, so, ⟨r', o0', o1', o2', o3'⟩, e2, er⟩ := corner_both (nu := X 17) (c0 := F 23) (cor := B 24) (nm := B 25) (t0 := B 26) g1 g2 n3 n5 hHu tg tf ag'
  have er' : r' = r := er
  subst er'
  exact ⟨r', o0, o1, o2, o3, o4, o5, o6, o7, o0', o1', o2', o3', by rw [hn]; exact e1, by rw [e0, hn]; exact e2, ⟨⟨e0, h3, h5, tg, tf, ag⟩, hNu, hMp, hSe, hEv, hBo⟩, hC, hI, hSp, so, hT, hTa⟩
theorem st_17 {x : Nat → Int} {X : Nat → Nat → Int} {kx : Nat → Int64} {it : Nat → Nat → Int64} {F : Nat → Int} {B : Nat → Nat → Int} {cl bt : Nat → Int64} (h : Rel x X kx it F B cl bt) (p1 : Int) (g1 : rg p1) (p2 : Int) (g2 : rg p2) (p3 : Int) (g3 : rg p3) : ∃ (r : Int) (o0 : Int) (o1 : Int) (o2 : Int) (o3 : Int) (o4 : Nat → Int) (o5 : Nat → Int) (o6 : Nat → Int64) (o7 : Nat → Int) (o0' : Int) (o1' : Nat → Int) (o2' : Nat → Int) (o3' : Nat → Int), f_X8_two p1 p2 p3 (x 1) (X 0) (x 19) (x 20) (x 21) (x 22) (X 16) (X 17) kx (X 18) = some (r, o0, o1, o2, o3, o4, o5, o6, o7) ∧ f_X9_two p1 p2 p3 (F 0) (F 23) (B 1) (B 24) (B 25) (B 26) = some (r, o0', o1', o2', o3') ∧ Rel (up (up (up (up x 19 o0) 20 o1) 21 o2) 22 o3) (up (up (up X 16 o4) 17 o5) 18 o7) o6 it (up F 23 o0') (up (up (up B 24 o1') 25 o2') 26 o3') cl bt := by
  obtain ⟨⟨⟨e0, h3, h5, tg, tf, ag⟩, hNu, hMp, hSe, hEv, hBo⟩, hC, hI, hSp, hHu, hT, hTa⟩ := h
  obtain ⟨n, hn⟩ := toN (show 0 ≤ x 1 by omega)
  have ag' : Ag n (X 0) (B 1) := hn ▸ ag
  have n3 : 3 ≤ n := by omega
  have n5 : n ≤ 5 := by omega
  obtain ⟨⟨r, o0, o1, o2, o3, o4, o5, o6, o7⟩, e1, so, ⟨r', o0', o1', o2', o3'⟩, e2, er⟩ := two_both (nu := X 17) (c0 := F 23) (cor := B 24) (nm := B 25) (t0 := B 26) g1 g2 g3 n3 n5 hHu tg tf ag'
  have er' : r' = r := er
  subst er'
  exact ⟨r', o0, o1, o2, o3, o4, o5, o6, o7, o0', o1', o2', o3', by rw [hn]; exact e1, by rw [e0, hn]; exact e2, ⟨⟨e0, h3, h5, tg, tf, ag⟩, hNu, hMp, hSe, hEv, hBo⟩, hC, hI, hSp, so, hT, hTa⟩
