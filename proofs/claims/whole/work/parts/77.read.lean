/-! PURE PART: read -/
theorem w_b6s {α β δ ε ζ η γ : Type} {t : Option (α × β × δ × ε × ζ × η)} {a : α} {b : β} {d : δ} {e : ε} {f : ζ} {g : η} {k : α → β → δ → ε → ζ → η → Option γ} {K : γ → Prop} (h : t = some (a, b, d, e, f, g)) (m : wp (k a b d e f g) K) : wp (bd6 t k) K := by
  rw [h]
  exact m
theorem w_b7s {α β δ ε ζ η θ γ : Type} {t : Option (α × β × δ × ε × ζ × η × θ)} {a : α} {b : β} {d : δ} {e : ε} {f : ζ} {g : η} {i : θ} {k : α → β → δ → ε → ζ → η → θ → Option γ} {K : γ → Prop} (h : t = some (a, b, d, e, f, g, i)) (m : wp (k a b d e f g i) K) : wp (bd7 t k) K := by
  rw [h]
  exact m
/-- two loops side by side -/
theorem two_67 {A1 A2 A3 A4 A5 A6 B1 B2 B3 B4 B5 B6 B7 α β : Type} {f : (A1 → A2 → A3 → A4 → A5 → A6 → Option α) → A1 → A2 → A3 → A4 → A5 → A6 → Option α} {f' : (B1 → B2 → B3 → B4 → B5 → B6 → B7 → Option β) → B1 → B2 → B3 → B4 → B5 → B6 → B7 → Option β} {Q : α → β → Prop} (I : Nat → A1 → A2 → A3 → A4 → A5 → A6 → B1 → B2 → B3 → B4 → B5 → B6 → B7 → Prop) (b : Nat)
  (hs : ∀ k, k < b → ∀ a1 a2 a3 a4 a5 a6 b1 b2 b3 b4 b5 b6 b7, I k a1 a2 a3 a4 a5 a6 b1 b2 b3 b4 b5 b6 b7 → ∀ nx ny, (∀ c1 c2 c3 c4 c5 c6 d1 d2 d3 d4 d5 d6 d7, I (k + 1) c1 c2 c3 c4 c5 c6 d1 d2 d3 d4 d5 d6 d7 → wp (nx c1 c2 c3 c4 c5 c6) (fun o => wp (ny d1 d2 d3 d4 d5 d6 d7) (Q o))) → wp (f nx a1 a2 a3 a4 a5 a6) (fun o => wp (f' ny b1 b2 b3 b4 b5 b6 b7) (Q o)))
  (he : ∀ a1 a2 a3 a4 a5 a6 b1 b2 b3 b4 b5 b6 b7, I b a1 a2 a3 a4 a5 a6 b1 b2 b3 b4 b5 b6 b7 → ∀ nx ny, wp (f nx a1 a2 a3 a4 a5 a6) (fun o => wp (f' ny b1 b2 b3 b4 b5 b6 b7) (Q o))) :
  ∀ (N N' k : Nat) a1 a2 a3 a4 a5 a6 b1 b2 b3 b4 b5 b6 b7, I k a1 a2 a3 a4 a5 a6 b1 b2 b3 b4 b5 b6 b7 → k ≤ b → b - k < N → b - k < N' → wp (lq6 f N a1 a2 a3 a4 a5 a6) (fun o => wp (lq7 f' N' b1 b2 b3 b4 b5 b6 b7) (Q o))
  | 0, _, _, _, _, _, _, _, _, _, _, _, _, _, _, _, _, _, h, _ => absurd h (Nat.not_lt_zero _)
  | _ + 1, 0, _, _, _, _, _, _, _, _, _, _, _, _, _, _, _, _, _, h => absurd h (Nat.not_lt_zero _)
  | N + 1, N' + 1, k, a1, a2, a3, a4, a5, a6, b1, b2, b3, b4, b5, b6, b7, hI, hk, h, h' => by
    show wp (f (lq6 f N) a1 a2 a3 a4 a5 a6) (fun o => wp (f' (lq7 f' N') b1 b2 b3 b4 b5 b6 b7) (Q o))
    rcases Nat.lt_or_eq_of_le hk with q | q
    · exact hs k q _ _ _ _ _ _ _ _ _ _ _ _ _ hI _ _ (fun c1 c2 c3 c4 c5 c6 d1 d2 d3 d4 d5 d6 d7 hc => two_67 I b hs he N N' (k + 1) c1 c2 c3 c4 c5 c6 d1 d2 d3 d4 d5 d6 d7 hc q (by omega) (by omega))
    · subst q
      exact he _ _ _ _ _ _ _ _ _ _ _ _ _ hI _ _
def CRt (o : Int × Int × (Nat → Int) × (Nat → Int) × (Nat → Int)) (o' : Int × Int × Int × Int × Int × (Nat → Int) × (Nat → Int) × (Nat → Int) × (Nat → Int) × (Nat → Int) × (Nat → Int) × (Nat → Int) × (Nat → Int)) : Prop := o'.1 = o.1 ∧ RTab o.2.1 o.2.2.1 o'.2.1 o'.2.2.2.2.2.1 ∧ RNum o.2.2.2.1 o'.2.2.2.2.2.2.1 ∧ RMap o.2.1 o.2.2.2.2 o'.2.2.2.2.2.2.2.1 ∧ o'.2.2.1 = 0
theorem carry_two {h K : Nat} {n m a b pl : Int} {P : Nat → Nat} {s t st cl to by' nm cl1 to1 by1 nm1 g far nu nb im be kp : Nat → Int} (T : TX h s t) (hK : K ≤ 12) (hall : f_X9_readAll h a b t cl to by' nm = some (1, pl, (K : Int), cl1, to1, by1, nm1)) (hE : ∀ j, j < K → ∃ e : Nat, PC h s (P j) (e : Int)) (hR : ∀ j, j < K → RCl h s (P j) j cl1 to1 by1 nm1) (hs : ∀ j, j < K → st j = ((P j : Nat) : Int) ∧ P j ≤ h) (S : RTab n g m far) (N : RNum nu nb) (M : RMap n im be) : wp (f_X6_carryOut h K s st n g nu im) (fun o => wp (f_X9_read m h a b far nb be t kp cl to by' nm) (CRt o)) := by
  unfold f_X6_carryOut f_X9_read
  rw [hall]
  simp only [bd7]
  rw [if_neg (show ¬ eqI 1 0 = true by decide)]
  refine two_67 (Q := CRt) (fun k (v : Int) (z : Int) n g nu im v' z' m far nb be _ => z = (k : Int) ∧ v' = v ∧ z' = (k : Int) ∧ 0 ≤ v ∧ v ≤ k ∧ RTab n g m far ∧ RNum nu nb ∧ RMap n im be) K (fun k hk v z n g nu im v' z' m far nb be kp hI nx ny hn => ?_) (fun v z n g nu im v' z' m far nb be kp hI nx ny => ?_) 300 300 0 (0 : Int) (0 : Int) n g nu im (0 : Int) (0 : Int) m far nb be kp ⟨rfl, rfl, rfl, by omega, by omega, S, N, M⟩ (Nat.zero_le _) (by omega) (by omega)
  · obtain ⟨e1, e2, e3, v1, v2, S, N, M⟩ := hI
    subst e1
    subst e2
    subst e3
    have hk2 := hs k hk
    refine w_ltT (by omega) ?_
    refine w_gi (by omega) ?_
    rw [ix_nat (show k < 2147483648 by omega), hk2.1]
    refine w_b5 (clause_two (kp := kp) T hk2.2 (by omega) (hE k hk) (hR k hk) S N M) (fun a b d f i hab => ?_)
    obtain ⟨⟨a', b', d', f', i', q'⟩, f1, hd, hS, hN, hM⟩ := hab
    refine w_j ?_
    rcases hd with ⟨d1, d2⟩ | ⟨d1, d2⟩
    · refine w_eqT d1 ?_
      refine w_lz ?_
      refine w_m (hn _ _ _ _ _ _ _ ((k : Int) + 1) _ _ _ _ q' ⟨by omega, rfl, by omega, by omega, by omega, hS, hN, hM⟩) (fun o ho => ?_)
      refine w_ltT (by omega) ?_
      refine w_b6s f1 ?_
      refine w_j ?_
      refine w_eqT d2 ?_
      exact w_lz ho
    · have d1' : a = 1 := d1
      have d2' : a' = 1 := d2
      refine w_eqF (by omega) ?_
      refine w_lz ?_
      refine w_m (hn _ _ _ _ _ _ _ ((k : Int) + 1) _ _ _ _ q' ⟨by omega, rfl, by omega, by omega, by omega, hS, hN, hM⟩) (fun o ho => ?_)
      refine w_ltT (by omega) ?_
      refine w_b6s f1 ?_
      refine w_j ?_
      refine w_eqF (by omega) ?_
      exact w_lz ho
  · obtain ⟨e1, e2, e3, v1, v2, S, N, M⟩ := hI
    subst e1
    subst e2
    subst e3
    refine w_ltF (by omega) ?_
    refine w_s ?_
    refine w_ltF (by omega) ?_
    exact w_s ⟨rfl, S, N, M, rfl⟩
def RDt (o : Int × Int × (Nat → Int) × (Nat → Int) × (Nat → Int) × Int × Int × (Nat → Int)) (o' : Int × Int × Int × Int × Int × (Nat → Int) × (Nat → Int) × (Nat → Int) × (Nat → Int) × (Nat → Int) × (Nat → Int) × (Nat → Int) × (Nat → Int)) : Prop := o'.1 = o.1 ∧ RTab o.2.1 o.2.2.1 o'.2.1 o'.2.2.2.2.2.1 ∧ RNum o.2.2.2.1 o'.2.2.2.2.2.2.1 ∧ RMap o.2.1 o.2.2.2.2.1 o'.2.2.2.2.2.2.2.1 ∧ o.2.2.2.2.2.1 = 0 ∧ o'.2.2.1 = 0
theorem read_two {h : Nat} {n m a b c0 : Int} {s t st cl to by' nm g far nu nb im be kp : Nat → Int} (T : TX h s t) (S : RTab n g m far) (N : RNum nu nb) (M : RMap n im be) : wp (f_X8_read n g nu im h c0 s st) (fun o => wp (f_X9_read m h a b far nb be t kp cl to by' nm) (RDt o)) := by
  have h1 := T.1
  obtain ⟨⟨r1, pl, kk, cl1, to1, by1, nm1⟩, eR, hR⟩ := readAll_X9 (cl := cl) (to := to) (by' := by') (nu := nm) (a := a) (b := b) T
  unfold f_X8_read
  refine w_b3 (firstFault_X6 T) (fun r4 c4 st4 hC => ?_)
  obtain ⟨k, P, e, ok, hSP, hst, hc⟩ := hC
  obtain ⟨k', P', e', ok', hSP', hpl, hr⟩ := hR
  obtain ⟨q1, q2, q3, q4⟩ := SPt_u hSP hSP'
  subst q1
  subst q2
  subst q3
  have hpl' : pl = (e : Int) := hpl
  subst hpl'
  refine w_j ?_
  rcases hc with ⟨g1, g2, g3, g4⟩ | ⟨g1, g2⟩
  · have g3' : r4 = -1 := g3
    have g4' : c4 = ((k + 1 : Nat) : Int) := g4
    subst g4'
    obtain ⟨m1, m2, m3⟩ : r1 = 1 ∧ kk = ((k + 1 : Nat) : Int) ∧ ∀ j, j ≤ k → RCl h s (P' j) j cl1 to1 by1 nm1 := by
      rcases hr with ⟨y1, y2⟩ | ⟨y1, y2, y3, y4⟩
      · omega
      · rcases y2 with ⟨y2, y5⟩ | ⟨y2, y5⟩
        · exact ⟨y5, y3, y4⟩
        · omega
    subst m1
    subst m2
    have hk := hSP.2.1
    refine w_ltT (by omega) ?_
    refine w_b5 (carry_two (K := k + 1) (P := P) (kp := kp) T (by omega) eR ?_ ?_ (fun j hj => hst j (by omega)) S N M) (fun x1 x2 x3 x4 x5 hab => ?_)
    · intro j hj
      by_cases c : j = k
      · subst c
        rcases hSP.2.2 with ⟨y1, y2⟩ | ⟨y1, y2, -⟩
        · omega
        · exact ⟨e, y2⟩
      · obtain ⟨z, z1, -⟩ := hSP.1.2 j (by omega)
        exact ⟨z, z1⟩
    · intro j hj
      rw [q4 j (by omega)]
      exact m3 j (by omega)
    · refine w_b2s (a := 0) (b := 0) rfl ?_
      exact w_s (w_m hab (fun o' ho => ⟨ho.1, ho.2.1, ho.2.2.1, ho.2.2.2.1, rfl, ho.2.2.2.2⟩))
  · have g2' : r4 = (e : Int) := g2
    subst g2'
    have e3 : e ≤ 400 := by
      have := hSP.2.2
      rcases this with ⟨y1, y2⟩ | ⟨y1, y2, y3, -⟩
      · have := PC_b T (hst k (Nat.le_refl _)).2 y2
        omega
      · omega
    have m1 : r1 = 0 := by
      rcases hr with ⟨y1, y2⟩ | ⟨y1, y2, -⟩
      · exact y2
      · rcases y2 with ⟨y2, y5⟩ | ⟨y2, y5⟩
        · omega
        · exact y5
    subst m1
    refine w_ltF (by omega) ?_
    refine w_b2s (a := 0) (b := 0) rfl ?_
    refine w_s ?_
    show wp (f_X9_read m h a b far nb be t kp cl to by' nm) _
    unfold f_X9_read
    refine w_b7s eR ?_
    refine w_eqT rfl ?_
    exact w_s ⟨rfl, S, N, M, rfl, rfl⟩
/-- read -/
theorem st_7 {x : Nat → Int} {X : Nat → Nat → Int} {kx : Nat → Int64} {it : Nat → Nat → Int64} {F : Nat → Int} {B : Nat → Nat → Int} {cl bt : Nat → Int64} (h : Rel x X kx it F B cl bt) : ∃ (r : Int) (o0 : Int) (o1 : Nat → Int) (o2 : Nat → Int) (o3 : Nat → Int) (o4 : Int) (o5 : Int) (o6 : Nat → Int) (o0' : Int) (o1' : Int) (o2' : Int) (o3' : Int) (o4' : Nat → Int) (o5' : Nat → Int) (o6' : Nat → Int) (o7' : Nat → Int) (o8' : Nat → Int) (o9' : Nat → Int) (o10' : Nat → Int) (o11' : Nat → Int), f_X8_read (x 1) (X 0) (X 1) (X 2) (x 23) (x 24) (X 19) (X 20) = some (r, o0, o1, o2, o3, o4, o5, o6) ∧ f_X9_read (F 0) (F 15) (F 27) (F 28) (B 1) (B 2) (B 3) (B 14) (B 20) (B 29) (B 30) (B 31) (B 32) = some (r, o0', o1', o2', o3', o4', o5', o6', o7', o8', o9', o10', o11') ∧ Rel (up (up (up x 1 o0) 23 o4) 24 o5) (up (up (up (up X 0 o1) 1 o2) 2 o3) 20 o6) kx it (up (up (up (up F 0 o0') 15 o1') 27 o2') 28 o3') (up (up (up (up (up (up (up (up B 1 o4') 2 o5') 3 o6') 20 o7') 29 o8') 30 o9') 31 o10') 32 o11') cl bt := by
  obtain ⟨⟨hTb, hNu, hMp, hSe, hEv, hBo⟩, hC, hI, hSp, hHu, hT, hTa⟩ := h
  obtain ⟨t1, t2, t3, t4⟩ := hT
  obtain ⟨k, hk⟩ := toN t2
  have T : TX k (X 19) (B 14) := ⟨by omega, fun j hj => t4 j (by omega)⟩
  rw [t1, hk]
  obtain ⟨⟨r, o0, o1, o2, o3, o4, o5, o6⟩, e1, ⟨⟨r', o0', o1', o2', o3', o4', o5', o6', o7', o8', o9', o10', o11'⟩, e2, a1, a2, a3, a4, a5, a6⟩⟩ := read_two (c0 := x 24) (st := X 20) (a := F 27) (b := F 28) (kp := B 20) (cl := B 29) (to := B 30) (by' := B 31) (nm := B 32) T hTb hNu hMp
  have a1' : r' = r := a1
  have a5' : o4 = 0 := a5
  have a6' : o1' = 0 := a6
  subst a1'
  subst a5'
  subst a6'
  exact ⟨_, _, _, _, _, _, _, _, _, _, _, _, _, _, _, _, _, _, _, _, e1, e2, ⟨a2, a3, a4, hSe, hEv, hBo⟩, hC, hI, hSp, hHu, ⟨rfl, (show (0 : Int) ≤ 0 by decide), (show (0 : Int) ≤ 100 by decide), fun j hj => absurd (show (j : Int) < 0 from hj) (by omega)⟩, hTa⟩
