/-! PURE PART: the hull followed -/
def cfc (a b : Nat) : Nat → Nat
  | 0 => 0
  | c + 1 => cfc a b c + (if 0 < c ∧ a ≠ b ∧ a ≠ c ∧ b ≠ c ∧ a < 10 - a - b - c then 1 else 0)
def cfb (a : Nat) : Nat → Nat
  | 0 => 0
  | b + 1 => cfb a b + (if 0 < b then cfc a b 5 else 0)
def cfa : Nat → Nat
  | 0 => 0
  | a + 1 => cfa a + (if 0 < a then cfb a 5 else 0)
theorem cf_12 : ∀ a b c : Fin 5, 0 < a.val → 0 < b.val → 0 < c.val → cfa a.val + cfb a.val b.val + cfc a.val b.val c.val + (if 0 < c.val ∧ a.val ≠ b.val ∧ a.val ≠ c.val ∧ b.val ≠ c.val ∧ a.val < 10 - a.val - b.val - c.val then 1 else 0) ≤ 12 := by decide +kernel
theorem cfa_5 : cfa 5 ≤ 12 := by decide +kernel
def FD (g : Nat → Int) (S : Nat → Prop) (a b c : Nat) : Prop := a ≠ b → a ≠ c → b ≠ c → a < 10 - a - b - c → ∀ f, CORN 5 g f → FIVE g f a b c (10 - a - b - c) → S (kcode 5 f)
theorem FD_m {g : Nat → Int} {S S' : Nat → Prop} {a b c : Nat} (m : ∀ v, S v → S' v) (h : FD g S a b c) : FD g S' a b c := fun q1 q2 q3 q4 f c1 c2 => m _ (h q1 q2 q3 q4 f c1 c2)
theorem fives_X0 {h0 : Nat} {g nu : Nat → Int} {ks : Nat → Int64} {S0 : Nat → Prop} (tg : Tb g) (hh : h0 ≤ 25) (H : HL h0 ks S0) (HS : ∀ v, S0 v → CSv 5 g v) : wp (f_X0_addRoundsOfFive h0 5 g nu ks) (fun o => ∃ (h : Nat) (S : Nat → Prop), o.1 = h ∧ h ≤ 37 ∧ HL h o.2.2 S ∧ (∀ v, S0 v → S v) ∧ (∀ v, S v → CSv 5 g v) ∧ ∀ a b c, 0 < a → a < 5 → 0 < b → b < 5 → 0 < c → c < 5 → FD g S a b c) := by
  unfold f_X0_addRoundsOfFive
  refine w_ltF (by omega) ?_
  refine w_q4 (fun a v hI nu ks => v = (a : Int) ∧ 0 < a ∧ ∃ (h : Nat) (S : Nat → Prop), hI = h ∧ h ≤ 25 + cfa a ∧ HL h ks S ∧ (∀ v, S0 v → S v) ∧ (∀ v, S v → CSv 5 g v) ∧ ∀ a', a' < a → 0 < a' → ∀ b c, 0 < b → b < 5 → 0 < c → c < 5 → FD g S a' b c) 5 1 ⟨rfl, by omega, h0, S0, rfl, by show h0 ≤ 25 + 0; omega, H, fun v q => q, HS, fun a' q1 q2 => absurd q1 (by omega)⟩ (by omega) (by omega) (fun a ha v hI nu ks hJ nx hn => ?_) (fun v hI nu ks hJ nx => ?_)
  · obtain ⟨rfl, a0, h, S, rfl, t1, t2, t3, t4, t5⟩ := hJ
    refine w_ltT (by omega) ?_
    refine w_q4 (fun b v hI nu ks => v = (b : Int) ∧ 0 < b ∧ ∃ (h : Nat) (S : Nat → Prop), hI = h ∧ h ≤ 25 + (cfa a + cfb a b) ∧ HL h ks S ∧ (∀ v, S0 v → S v) ∧ (∀ v, S v → CSv 5 g v) ∧ (∀ a', a' < a → 0 < a' → ∀ b c, 0 < b → b < 5 → 0 < c → c < 5 → FD g S a' b c) ∧ ∀ b', b' < b → 0 < b' → ∀ c, 0 < c → c < 5 → FD g S a b' c) 5 1 ⟨rfl, by omega, h, S, rfl, t1, t2, t3, t4, t5, fun a' q1 q2 => absurd q1 (by omega)⟩ (by omega) (by omega) (fun b hb v hI nu ks hJ ny hy => ?_) (fun v hI nu ks hJ ny => ?_)
    · obtain ⟨rfl, b0, h, S, rfl, u1, u2, u3, u4, u5, u6⟩ := hJ
      refine w_ltT (by omega) ?_
      refine w_q4 (fun c v hI nu ks => v = (c : Int) ∧ 0 < c ∧ ∃ (h : Nat) (S : Nat → Prop), hI = h ∧ h ≤ 25 + (cfa a + cfb a b + cfc a b c) ∧ HL h ks S ∧ (∀ v, S0 v → S v) ∧ (∀ v, S v → CSv 5 g v) ∧ (∀ a', a' < a → 0 < a' → ∀ b c, 0 < b → b < 5 → 0 < c → c < 5 → FD g S a' b c) ∧ (∀ b', b' < b → 0 < b' → ∀ c, 0 < c → c < 5 → FD g S a b' c) ∧ ∀ c', c' < c → 0 < c' → FD g S a b c') 5 1 ⟨rfl, by omega, h, S, rfl, u1, u2, u3, u4, u5, u6, fun a' q1 q2 => absurd q1 (by omega)⟩ (by omega) (by omega) (fun c hc v hI nu ks hJ nz hz => ?_) (fun v hI nu ks hJ nz => ?_)
      · obtain ⟨rfl, c0, h, S, rfl, v1, v2, v3, v4, v5, v6, v7⟩ := hJ
        have c12 := cf_12 ⟨a, by omega⟩ ⟨b, by omega⟩ ⟨c, by omega⟩ a0 b0 c0
        have c12' : cfa a + cfb a b + cfc a b c + (if 0 < c ∧ a ≠ b ∧ a ≠ c ∧ b ≠ c ∧ a < 10 - a - b - c then 1 else 0) ≤ 12 := c12
        have cs : cfc a b (c + 1) = cfc a b c + (if 0 < c ∧ a ≠ b ∧ a ≠ c ∧ b ≠ c ∧ a < 10 - a - b - c then 1 else 0) := rfl
        refine w_ltT (by omega) ?_
        refine w_l (fun d ed => ?_)
        refine w_j ?_
        have skip : ¬ (a ≠ b ∧ a ≠ c ∧ b ≠ c ∧ a < 10 - a - b - c) → wp (nz ((c : Int) + 1) (h : Int) nu ks) (fun o => ∃ (h : Nat) (S : Nat → Prop), o.1 = h ∧ h ≤ 37 ∧ HL h o.2.2 S ∧ (∀ v, S0 v → S v) ∧ (∀ v, S v → CSv 5 g v) ∧ ∀ a b c, 0 < a → a < 5 → 0 < b → b < 5 → 0 < c → c < 5 → FD g S a b c) := fun q => hz _ _ _ _ ⟨by omega, by omega, h, S, rfl, by rw [cs]; omega, v2, v3, v4, v5, v6, fa_s v7 (fun _ q1 q2 q3 q4 => absurd ⟨q1, q2, q3, q4⟩ q)⟩
        refine w_eq (by omega) (fun e1 => skip (by omega)) (fun e1 => ?_)
        refine w_eq (by omega) (fun e2 => skip (by omega)) (fun e2 => ?_)
        refine w_eq (by omega) (fun e3 => skip (by omega)) (fun e3 => ?_)
        refine w_lt (by omega) (fun e4 => ?_) (fun e4 => skip (by omega))
        have hd : d = ((10 - a - b - c : Nat) : Int) := by omega
        have cc : 0 < c ∧ a ≠ b ∧ a ≠ c ∧ b ≠ c ∧ a < 10 - a - b - c := ⟨c0, by omega, by omega, by omega, by omega⟩
        rw [if_pos cc] at c12' cs
        have pd : 0 < 10 - a - b - c ∧ 10 - a - b - c < 5 := by omega
        rw [hd]
        refine w_b3 (five_X0 tg ⟨a0, ha, b0, hb, c0, hc, pd.1, pd.2⟩ ⟨by omega, by omega, by omega, by omega, by omega, by omega⟩ (by omega) v2 v4) (fun x1 x2 x3 hx => ?_)
        obtain ⟨h', S', y1, y2, y3, y4, y5, y6⟩ := hx
        exact hz _ _ _ _ ⟨by omega, by omega, h', S', y1, by omega, y3, fun v q => y4 v (v3 v q), y5, fun a' q1 q2 b c q3 q4 q5 q6 => FD_m y4 (v5 a' q1 q2 b c q3 q4 q5 q6), fun b' q1 q2 c q3 q4 => FD_m y4 (v6 b' q1 q2 c q3 q4), fa_s (fun c' q1 q2 => FD_m y4 (v7 c' q1 q2)) (fun _ _ _ _ _ => y6)⟩
      · obtain ⟨rfl, c0, h, S, rfl, v1, v2, v3, v4, v5, v6, v7⟩ := hJ
        refine w_ltF (by omega) ?_
        have cs : cfb a (b + 1) = cfb a b + (if 0 < b then cfc a b 5 else 0) := rfl
        rw [if_pos b0] at cs
        exact hy _ _ _ _ ⟨by omega, by omega, h, S, rfl, by omega, v2, v3, v4, v5, fa_s v6 (fun _ c q1 q2 => v7 c q2 q1)⟩
    · obtain ⟨rfl, b0, h, S, rfl, u1, u2, u3, u4, u5, u6⟩ := hJ
      refine w_ltF (by omega) ?_
      have cs : cfa (a + 1) = cfa a + (if 0 < a then cfb a 5 else 0) := rfl
      rw [if_pos a0] at cs
      exact hn _ _ _ _ ⟨by omega, by omega, h, S, rfl, by omega, u2, u3, u4, fa_s u5 (fun _ b c q1 q2 q3 q4 => u6 b q2 q1 c q3 q4)⟩
  · obtain ⟨rfl, a0, h, S, rfl, t1, t2, t3, t4, t5⟩ := hJ
    refine w_ltF (by omega) ?_
    have := cfa_5
    exact w_s ⟨h, S, rfl, by omega, t2, t3, t4, fun a b c q1 q2 q3 q4 q5 q6 => t5 a q2 q1 b c q3 q4 q5 q6⟩
theorem key_dec {K x : Nat} (hK : K < 2 ^ 35) (hx : x < 5) : l2iI (lshrI (L6 K) (7 * (4 - (x : Int))) &&& (127 : Int64)) = (dec K x : Int) := by
  have am : ∀ x : Fin 5, (((jz (7 * (4 - (x.val : Int)))).toInt64 &&& 63).toBitVec.smod 64).toNat = 7 * (4 - x.val) := by decide +kernel
  have e1 : (lshrI (L6 K) (7 * (4 - (x : Int)))).toBitVec.toNat = K >>> (7 * (4 - x)) := by
    unfold lshrI
    rw [Int64.toBitVec_shiftRight]
    show ((L6 K).toBitVec.sshiftRight (((jz (7 * (4 - (x : Int)))).toInt64 &&& 63).toBitVec.smod 64).toNat).toNat = _
    rw [am ⟨x, hx⟩, BitVec.sshiftRight_eq_of_msb_false (BitVec.msb_eq_false_iff_two_mul_lt.mpr (by rw [L6_bv (by omega)]; omega)), BitVec.toNat_ushiftRight, L6_bv (by omega)]
  have e2 : (lshrI (L6 K) (7 * (4 - (x : Int))) &&& (127 : Int64)).toBitVec.toNat = dec K x := by
    rw [Int64.toBitVec_and, BitVec.toNat_and, e1]
    show K >>> (7 * (4 - x)) &&& 127 = _
    rw [show (127 : Nat) = 2 ^ 7 - 1 from rfl, Nat.and_two_pow_sub_one_eq_mod, Nat.shiftRight_eq_div_pow]
    rfl
  have l : dec K x < 128 := Nat.mod_lt _ (by omega)
  have e3 : lshrI (L6 K) (7 * (4 - (x : Int))) &&& (127 : Int64) = L6 (dec K x) := L6_of (by omega) e2
  rw [e3]
  unfold l2iI
  rw [Int64.toInt_toInt32, L6_ti (by omega)]
  exact Int.bmod_eq_of_le (by omega) (by omega)
theorem number_X0 {n h i x : Nat} {ks : Nat → Int64} {K : Nat} (h5 : n ≤ 5) (h3 : 3 ≤ n) (hi : i < h) (hh : h ≤ 37) (hx : x < n) (e : ks i = L6 K) (hK : K < 2 ^ 35) : f_X0_number i x h n ks = some (dec K x : Int) := by
  refine wp_e ?_
  unfold f_X0_number
  have hs : f_X0_has i h = some 1 := by
    refine wp_e ?_
    unfold f_X0_has
    refine w_j ?_
    refine w_j ?_
    refine w_ltF (by omega) ?_
    refine w_ltT (by omega) ?_
    exact w_g1 (w_s rfl)
  refine w_b1s hs ?_
  refine w_j ?_
  refine w_eqF (by omega) ?_
  refine w_b1s (has_X4 ⟨by omega, by omega⟩ (by omega) (by omega)) ?_
  refine w_B (fun z => absurd (by omega) z) (fun _ => ?_)
  refine w_gi (by omega) ?_
  rw [ix_nat (show i < 2147483648 by omega), e]
  refine w_lz ?_
  rw [key_dec hK (by omega)]
  exact w_s rfl
/-- the numbers at a corner, by its key -/
def cf (K x : Nat) : Int := (dec K x : Int)
theorem cf_r (K : Nat) (n : Nat) : FR n (cf K) := fun x _ => by
  have l : dec K x < 128 := Nat.mod_lt _ (by omega)
  unfold cf
  omega
theorem MASK_c {n R : Nat} {g f f' : Nat → Int} (e : ∀ x, x < n → f x = f' x) (h : MASK n g f R) : MASK n g f' R := ⟨h.1, fun x y hx hy => (h.2 x y hx hy).trans ⟨fun q => ⟨q.1, q.2.1, (TI_ag Ag_re e q.1 q.2.1).mp q.2.2⟩, fun q => ⟨q.1, q.2.1, (TI_ag Ag_re e q.1 q.2.1).mpr q.2.2⟩⟩⟩
theorem note_X0 {n h : Nat} {g nu tw : Nat → Int} {ks : Nat → Int64} {c : Nat → Nat} (h3 : 3 ≤ n) (h5 : n ≤ 5) (tg : Tb g) (hh : h ≤ 37) (hc : ∀ i, i < h → ks i = L6 (c i) ∧ c i < 2 ^ 35) : wp (f_X0_noteTwos h n g nu ks tw) (fun o => ∀ i, i < h → ∃ R : Nat, o.2 i = R ∧ MASK n g (cf (c i)) R) := by
  unfold f_X0_noteTwos
  refine w_q3 (fun k v nu tw => v = (k : Int) ∧ ∀ i, i < k → ∃ R : Nat, tw i = R ∧ MASK n g (cf (c i)) R) h 0 ⟨rfl, fa_0⟩ (by omega) (by omega) (fun k hk v nu tw hI nx hn => ?_) (fun v nu tw hI nx => ?_)
  · obtain ⟨rfl, t1⟩ := hI
    refine w_ltT (by omega) ?_
    refine w_q2 (fun m v nu => v = (m : Int) ∧ ∀ x, x < m → nu x = cf (c k) x) n 0 ⟨rfl, fa_0⟩ (by omega) (by omega) (fun m hm v nu hI ny hy => ?_) (fun v nu hI ny => ?_)
    · obtain ⟨rfl, t2⟩ := hI
      refine w_ltT (by omega) ?_
      refine w_b1s (number_X0 h5 h3 hk hh hm (hc k hk).1 (hc k hk).2) ?_
      refine w_gi (by omega) ?_
      rw [ix_nat (show m < 2147483648 by omega)]
      refine hy _ _ ⟨by omega, fun x hx => ?_⟩
      by_cases e : x = m
      · rw [e, up_eq]
        rfl
      · rw [up_ne _ _ e]
        exact t2 x (by omega)
    · obtain ⟨rfl, t2⟩ := hI
      refine w_ltF (by omega) ?_
      refine w_b1 (tights_X7 h5 tg (fun x hx => by rw [t2 x hx]; exact cf_r _ n x hx)) (fun r hr => ?_)
      obtain ⟨R, rfl, hM⟩ := hr
      refine w_gi (by omega) ?_
      rw [ix_nat (show k < 2147483648 by omega)]
      refine hn _ _ _ ⟨by omega, fun i hi => ?_⟩
      by_cases e : i = k
      · rw [e]
        exact ⟨R, up_eq _ _ _, MASK_c t2 hM⟩
      · rw [up_ne _ _ e]
        exact t1 i (by omega)
  · obtain ⟨rfl, t1⟩ := hI
    refine w_ltF (by omega) ?_
    exact w_s t1
/-- what the class's hull tells of a table -/
def HUL (n : Nat) (g : Nat → Int) (there held : Int) (kx : Nat → Int64) (tw : Nat → Int) : Prop := (there = 0 ∧ ¬ TAB n g) ∨ (there = 1 ∧ TAB n g ∧ ∃ (h : Nat) (c : Nat → Nat), held = h ∧ h ≤ 37 ∧ SL h c (CSv n g) ∧ (∀ i, i < h → kx i = L6 (c i) ∧ c i < 2 ^ 35) ∧ ∀ i, i < h → ∃ R : Nat, tw i = R ∧ MASK n g (cf (c i)) R)
theorem fresh_X0 {n : Nat} {a b : Int} {d e h d' : Nat → Int} {f : Nat → Int64} {s : Int} (h3 : 3 ≤ n) (h5 : n ≤ 5) (td : Tb d') : wp (f_X0_follow 0 a b s d e f h n d') (fun o => o.1 = 1 ∧ o.2.2.2.1 = n ∧ Tb o.2.2.2.2.1 ∧ Ag n o.2.2.2.2.1 d' ∧ HUL n o.2.2.2.2.1 o.2.1 o.2.2.1 o.2.2.2.2.2.2.1 o.2.2.2.2.2.2.2) := by
  unfold f_X0_follow
  refine w_j ?_
  refine w_eqT rfl ?_
  obtain ⟨g, e1, e2⟩ := become_X4 (s := s) (m := (n : Int)) (g := d) (d := d')
  have tg : Tb g := Tb_copy td e2
  have ag : Ag n g d' := Ag_copy h5 e2
  refine w_b2s e1 ?_
  refine w_g1 ?_
  refine w_b1 (isTable_X4 h5 tg) (fun r hr => ?_)
  refine w_gI hr ?_
  refine w_j ?_
  refine w_bI hr (fun nt r0 => w_s ⟨rfl, rfl, tg, ag, Or.inl ⟨r0, nt⟩⟩) (fun T r1 => ?_)
  refine w_b3 (eyes_X0 h5 tg T) (fun x1 x2 x3 hx => ?_)
  obtain ⟨h1, S1, rfl, p1, p2, p3, p4⟩ := hx
  refine w_b3 (threes_X0 h5 tg T p1 p2 p3) (fun y1 y2 y3 hy => ?_)
  obtain ⟨h2, S2, rfl, q1, q2, q3, q4, q5⟩ := hy
  have fin : wp (f_X0_addRoundsOfFive h2 n g y2 y3) (fun o => ∃ (h : Nat) (S : Nat → Prop), o.1 = h ∧ h ≤ 37 ∧ HL h o.2.2 S ∧ (∀ v, S2 v → S v) ∧ (∀ v, S v → CSv n g v) ∧ (n = 5 → ∀ a b c, 0 < a → a < 5 → 0 < b → b < 5 → 0 < c → c < 5 → FD g S a b c)) := by
    by_cases n5 : n = 5
    · subst n5
      exact w_m (fives_X0 tg q1 q2 q4) (fun o ho => by
        obtain ⟨hh, S, z1, z2, z3, z4, z5, z6⟩ := ho
        exact ⟨hh, S, z1, z2, z3, z4, z5, fun _ => z6⟩)
    · unfold f_X0_addRoundsOfFive
      refine w_ltT (by omega) ?_
      exact w_s ⟨h2, S2, rfl, by omega, q2, fun v q => q, q4, fun q => absurd q n5⟩
  refine w_b3 fin (fun z1 z2 z3 hz => ?_)
  obtain ⟨h3', S3, rfl, u1, ⟨c3, u2, u2'⟩, u3, u4, u5⟩ := hz
  refine w_b2 (note_X0 h3 h5 tg u1 u2') (fun v1 v2 hv => ?_)
  have all : ∀ v, S3 v ↔ CSv n g v := by
    intro v
    refine ⟨u4 v, ?_⟩
    rintro ⟨f, C, rfl⟩
    rcases corn_cases h3 h5 tg C with ⟨x, hx, fx⟩ | ⟨x, y, z, xy, yz, hz, w⟩ | ⟨n5, a, b, c, d, pp, qq, ad, E⟩
    · rw [kcode_c (zero_eye h5 tg T hx C fx)]
      exact u3 _ (q3 _ (p4 x hx))
    · obtain ⟨⟨F0, k1, k2⟩, F1, k3, k4⟩ := q5 x y z xy yz hz
      rcases w with w | w
      · rw [← kcode_c (w F0 k1)]
        exact u3 _ k2
      · rw [← kcode_c (w F1 k3)]
        exact u3 _ k4
    · subst n5
      have hd : d = 10 - a - b - c := by omega
      rw [hd] at E ad
      exact u5 rfl a b c (by omega) (by omega) (by omega) (by omega) (by omega) (by omega) (by omega) (by omega) (by omega) ad f C E
  exact w_s ⟨rfl, rfl, tg, ag, Or.inr ⟨r1, T, h3', c3, rfl, u1, SL_c u2 all, u2', hv⟩⟩
