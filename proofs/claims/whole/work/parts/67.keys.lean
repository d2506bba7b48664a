/-! PURE PART: keys of corners; lists in order -/
def L6 (a : Nat) : Int64 := Int64.ofInt (a : Int)
theorem L6_ti {a : Nat} (h : a < 2 ^ 62) : (L6 a).toInt = a := Int64.toInt_ofInt_of_le (by omega) (by omega)
theorem L6_bv {a : Nat} (h : a < 2 ^ 62) : (L6 a).toBitVec.toNat = a := by
  show (BitVec.ofInt 64 (a : Int)).toNat = a
  rw [BitVec.ofInt_natCast, BitVec.toNat_ofNat]
  exact Nat.mod_eq_of_lt (by omega)
theorem L6_of {v : Int64} {a : Nat} (h : a < 2 ^ 62) (e : v.toBitVec.toNat = a) : v = L6 a := Int64.toBitVec_inj.mp (BitVec.eq_of_toNat_eq (by rw [e, L6_bv h]))
theorem i2l_L {s : Nat} (h : s < 2147483648) : i2lI s = L6 s := Int64.toInt_inj.mp (by rw [i2l_ti ⟨by omega, by omega⟩, L6_ti (by omega)])
theorem key_s {a s : Nat} (ha : a < 2 ^ 50) (hs : s < 128) : lshlI (L6 a) 7 ||| i2lI s = L6 (128 * a + s) := by
  have am : (((jz 7).toInt64 &&& 63).toBitVec.smod 64).toNat = 7 := by decide
  refine L6_of (by omega) ?_
  rw [i2l_L (by omega), Int64.toBitVec_or, BitVec.toNat_or, L6_bv (a := s) (by omega)]
  have e : (lshlI (L6 a) 7).toBitVec.toNat = a <<< 7 := by
    unfold lshlI
    rw [Int64.toBitVec_shiftLeft]
    show ((L6 a).toBitVec <<< (((jz 7).toInt64 &&& 63).toBitVec.smod 64).toNat).toNat = _
    rw [am, BitVec.toNat_shiftLeft, L6_bv (by omega), Nat.shiftLeft_eq]
    exact Nat.mod_eq_of_lt (by omega)
  rw [e, ← Nat.shiftLeft_add_eq_or_of_lt (by omega) a, Nat.shiftLeft_eq]
  omega
theorem cmp_L {a b : Nat} (ha : a < 2 ^ 62) (hb : b < 2 ^ 62) : lcmI (L6 a) (L6 b) = if b < a then 1 else if a = b then 0 else -1 := by
  unfold lcmI lg_cmp
  have e1 := L6_ti ha
  have e2 := L6_ti hb
  by_cases c : b < a
  · have q : L6 a > L6 b := Int64.lt_iff_toInt_lt.mpr (by rw [e1, e2]; omega)
    rw [if_pos q, if_pos c]
    decide
  · have q : ¬ L6 a > L6 b := fun z => c (by have := Int64.lt_iff_toInt_lt.mp z; rw [e1, e2] at this; omega)
    rw [if_neg q, if_neg c]
    by_cases d : a = b
    · rw [d, if_pos rfl, if_pos rfl]
      decide
    · rw [if_neg d, if_neg (fun z => d (by have := congrArg Int64.toInt z; rw [e1, e2] at this; omega))]
      decide
theorem w_cmplt {α : Type} {K : α → Prop} {a b : Nat} {t e : Option α} (r : a < 2 ^ 62 ∧ b < 2 ^ 62) (h1 : a < b → wp t K) (h2 : b ≤ a → wp e K) : wp (if ltI (lcmI (L6 a) (L6 b)) 0 = true then t else e) K := by
  rw [cmp_L r.1 r.2]
  by_cases c : b < a
  · rw [if_pos c]
    exact w_ltF (by omega) (h2 (by omega))
  · rw [if_neg c]
    by_cases d : a = b
    · rw [if_pos d]
      exact w_ltF (by omega) (h2 (by omega))
    · rw [if_neg d]
      exact w_ltT (by omega) (h1 (by omega))
theorem w_cmpeq {α : Type} {K : α → Prop} {a b : Nat} {t e : Option α} (r : a < 2 ^ 62 ∧ b < 2 ^ 62) (h1 : a = b → wp t K) (h2 : a ≠ b → wp e K) : wp (if eqI (lcmI (L6 a) (L6 b)) 0 = true then t else e) K := by
  rw [cmp_L r.1 r.2]
  by_cases c : b < a
  · rw [if_pos c]
    exact w_eqF (by omega) (h2 (by omega))
  · rw [if_neg c]
    by_cases d : a = b
    · rw [if_pos d]
      exact w_eqT rfl (h1 d)
    · rw [if_neg d]
      exact w_eqF (by omega) (h2 d)
/-- the key of numbers f 0 .. f 4 (0 for points that aren't there) -/
def ky (f : Nat → Nat) : Nat → Nat
  | 0 => 0
  | k + 1 => 128 * ky f k + f k
def fz (n : Nat) (f : Nat → Int) (x : Nat) : Nat := if x < n then (f x).toNat else 0
def kcode (n : Nat) (f : Nat → Int) : Nat := ky (fz n f) 5
def dec (K x : Nat) : Nat := K / 2 ^ (7 * (4 - x)) % 128
theorem ky_e (f : Nat → Nat) : ky f 5 = 268435456 * f 0 + 2097152 * f 1 + 16384 * f 2 + 128 * f 3 + f 4 := by
  show 128 * (128 * (128 * (128 * (128 * 0 + f 0) + f 1) + f 2) + f 3) + f 4 = _
  omega
def F80 (n : Nat) (f : Nat → Int) : Prop := ∀ x, x < n → 0 ≤ f x ∧ f x ≤ 80
theorem fz_lt {n : Nat} {f : Nat → Int} (hf : F80 n f) (x : Nat) : fz n f x ≤ 80 := by
  unfold fz
  split
  · next c =>
    have := hf x c
    omega
  · omega
theorem ky_lt {f : Nat → Nat} (hf : ∀ x, f x ≤ 80) : ∀ k, ky f k < 128 ^ k
  | 0 => by
    show 0 < 1
    omega
  | k + 1 => by
    have := ky_lt hf k
    have := hf k
    have e : 128 ^ (k + 1) = 128 ^ k * 128 := Nat.pow_succ 128 k
    show 128 * ky f k + f k < _
    omega
theorem kcode_lt {n : Nat} {f : Nat → Int} (hf : F80 n f) : kcode n f < 2 ^ 35 := ky_lt (fz_lt hf) 5
theorem dec_kcode {n : Nat} {f : Nat → Int} (hf : F80 n f) {x : Nat} (hx : x < 5) : dec (kcode n f) x = fz n f x := by
  unfold dec kcode
  rw [ky_e]
  have h0 := fz_lt hf 0
  have h1 := fz_lt hf 1
  have h2 := fz_lt hf 2
  have h3 := fz_lt hf 3
  have h4 := fz_lt hf 4
  have : x = 0 ∨ x = 1 ∨ x = 2 ∨ x = 3 ∨ x = 4 := by omega
  rcases this with rfl | rfl | rfl | rfl | rfl
  · show _ / 268435456 % 128 = _
    omega
  · show _ / 2097152 % 128 = _
    omega
  · show _ / 16384 % 128 = _
    omega
  · show _ / 128 % 128 = _
    omega
  · show _ / 1 % 128 = _
    omega
theorem dec_f {n : Nat} {f : Nat → Int} (hf : F80 n f) (h5 : n ≤ 5) {x : Nat} (hx : x < n) : (dec (kcode n f) x : Int) = f x := by
  rw [dec_kcode hf (by omega)]
  unfold fz
  rw [if_pos hx]
  have := hf x hx
  omega
theorem kcode_inj {n : Nat} {f f' : Nat → Int} (hf : F80 n f) (hf' : F80 n f') (h5 : n ≤ 5) (e : kcode n f = kcode n f') : ∀ x, x < n → f x = f' x := fun x hx => by
  rw [← dec_f hf h5 hx, ← dec_f hf' h5 hx, e]
theorem kcode_c {n : Nat} {f f' : Nat → Int} (e : ∀ x, x < n → f x = f' x) : kcode n f = kcode n f' := by
  have : fz n f = fz n f' := by
    funext x
    unfold fz
    split
    · next c => rw [e x c]
    · rfl
  unfold kcode
  rw [this]
/-- the order of keys is that of the first unlike number -/
theorem kcode_first {n : Nat} {f f' : Nat → Int} (hf : F80 n f) (hf' : F80 n f') (h5 : n ≤ 5) {k : Nat} (hk : k < n) (e : ∀ x, x < k → f x = f' x) (l : f k < f' k) : kcode n f < kcode n f' := by
  unfold kcode
  rw [ky_e, ky_e]
  have a0 := fz_lt hf 0
  have a1 := fz_lt hf 1
  have a2 := fz_lt hf 2
  have a3 := fz_lt hf 3
  have a4 := fz_lt hf 4
  have b0 := fz_lt hf' 0
  have b1 := fz_lt hf' 1
  have b2 := fz_lt hf' 2
  have b3 := fz_lt hf' 3
  have b4 := fz_lt hf' 4
  have ee : ∀ x, x < k → fz n f x = fz n f' x := fun x hx => by
    unfold fz
    rw [if_pos (show x < n by omega), if_pos (show x < n by omega), e x hx]
  have ll : fz n f k < fz n f' k := by
    unfold fz
    rw [if_pos hk, if_pos hk]
    have := hf k hk
    omega
  have : k = 0 ∨ k = 1 ∨ k = 2 ∨ k = 3 ∨ k = 4 := by omega
  rcases this with rfl | rfl | rfl | rfl | rfl
  · omega
  · have := ee 0 (by omega)
    omega
  · have := ee 0 (by omega)
    have := ee 1 (by omega)
    omega
  · have := ee 0 (by omega)
    have := ee 1 (by omega)
    have := ee 2 (by omega)
    omega
  · have := ee 0 (by omega)
    have := ee 1 (by omega)
    have := ee 2 (by omega)
    have := ee 3 (by omega)
    omega
/-- h keys in order: all of S -/
def SL (h : Nat) (c : Nat → Nat) (S : Nat → Prop) : Prop := (∀ i j, i < j → j < h → c i < c j) ∧ ∀ v, S v ↔ ∃ i, i < h ∧ c i = v
def INS (h : Nat) (c : Nat → Nat) (h' : Nat) (c' : Nat → Nat) (K : Nat) : Prop := (h' = h ∧ (∀ i, i < h → c' i = c i) ∧ ∃ i, i < h ∧ c i = K) ∨ (h' = h + 1 ∧ ∃ p, p ≤ h ∧ (∀ i, i < p → c' i = c i ∧ c i < K) ∧ c' p = K ∧ ∀ i, p ≤ i → i < h → c' (i + 1) = c i ∧ K < c i)
theorem SL_0 {c : Nat → Nat} : SL 0 c (fun _ => False) := ⟨fun i j _ h => absurd h (Nat.not_lt_zero _), fun v => ⟨False.elim, fun ⟨i, h, _⟩ => absurd h (Nat.not_lt_zero _)⟩⟩
theorem SL_c {h : Nat} {c : Nat → Nat} {S S' : Nat → Prop} (H : SL h c S) (e : ∀ v, S v ↔ S' v) : SL h c S' := ⟨H.1, fun v => (e v).symm.trans (H.2 v)⟩
theorem SL_ins {h h' : Nat} {c c' : Nat → Nat} {S : Nat → Prop} {K : Nat} (H : SL h c S) (I : INS h c h' c' K) : SL h' c' (fun v => S v ∨ v = K) ∧ h' ≤ h + 1 := by
  obtain ⟨H1, H2⟩ := H
  rcases I with ⟨rfl, e, i, hi, ei⟩ | ⟨rfl, p, hp, a1, a2, a3⟩
  · refine ⟨⟨fun i j hij hj => by rw [e i (by omega), e j hj]; exact H1 i j hij hj, fun v => ?_⟩, by omega⟩
    constructor
    · rintro (q | rfl)
      · obtain ⟨j, j1, j2⟩ := (H2 v).mp q
        exact ⟨j, j1, by rw [e j j1]; exact j2⟩
      · exact ⟨i, hi, by rw [e i hi]; exact ei⟩
    · rintro ⟨j, j1, j2⟩
      exact Or.inl ((H2 v).mpr ⟨j, j1, by rw [← e j j1]; exact j2⟩)
  · refine ⟨⟨fun i j hij hj => ?_, fun v => ?_⟩, by omega⟩
    · by_cases jp : j < p
      · rw [(a1 i (by omega)).1, (a1 j jp).1]
        exact H1 i j hij (by omega)
      · by_cases je : j = p
        · subst je
          rw [a2, (a1 i hij).1]
          exact (a1 i hij).2
        · obtain ⟨q, rfl⟩ : ∃ q, j = q + 1 := ⟨j - 1, by omega⟩
          have aj := a3 q (by omega) (by omega)
          rw [aj.1]
          by_cases ip : i < p
          · rw [(a1 i ip).1]
            exact H1 i q (by omega) (by omega)
          · by_cases ie : i = p
            · subst ie
              rw [a2]
              exact aj.2
            · obtain ⟨s, rfl⟩ : ∃ s, i = s + 1 := ⟨i - 1, by omega⟩
              rw [(a3 s (by omega) (by omega)).1]
              exact H1 s q (by omega) (by omega)
    · constructor
      · rintro (q | rfl)
        · obtain ⟨j, j1, j2⟩ := (H2 v).mp q
          by_cases jp : j < p
          · exact ⟨j, by omega, by rw [(a1 j jp).1]; exact j2⟩
          · exact ⟨j + 1, by omega, by rw [(a3 j (by omega) j1).1]; exact j2⟩
        · exact ⟨p, by omega, a2⟩
      · rintro ⟨j, j1, j2⟩
        by_cases jp : j < p
        · exact Or.inl ((H2 v).mpr ⟨j, by omega, by rw [← (a1 j jp).1]; exact j2⟩)
        · by_cases je : j = p
          · subst je
            exact Or.inr (j2.symm.trans a2)
          · obtain ⟨q, rfl⟩ : ∃ q, j = q + 1 := ⟨j - 1, by omega⟩
            exact Or.inl ((H2 v).mpr ⟨q, by omega, by rw [← (a3 q (by omega) (by omega)).1]; exact j2⟩)
theorem SL_le {h h' : Nat} {c c' : Nat → Nat} {S S' : Nat → Prop} (H : SL h c S) (H' : SL h' c' S') (e : ∀ v, S v → S' v) : h ≤ h' := by
  have m : ∀ k, k ≤ h → ∀ i, i < k → ∃ j, i ≤ j ∧ j < h' ∧ c' j = c i := by
    intro k
    induction k with
    | zero => exact fun _ i hi => absurd hi (Nat.not_lt_zero _)
    | succ k ih =>
      intro hk i hi
      obtain ⟨j, j1, j2⟩ := (H'.2 (c i)).mp (e _ ((H.2 (c i)).mpr ⟨i, by omega, rfl⟩))
      refine ⟨j, ?_, j1, j2⟩
      cases i with
      | zero => exact Nat.zero_le _
      | succ i =>
        obtain ⟨q, q1, q2, q3⟩ := ih (by omega) i (by omega)
        have l := H.1 i (i + 1) (by omega) (by omega)
        refine Classical.byContradiction (fun no => ?_)
        have : j ≤ q := by omega
        by_cases jq : j = q
        · subst jq
          omega
        · have := H'.1 j q (by omega) q2
          omega
  cases h with
  | zero => exact Nat.zero_le _
  | succ h =>
    obtain ⟨j, j1, j2, j3⟩ := m (h + 1) (Nat.le_refl _) h (by omega)
    omega
theorem SL_u {h h' : Nat} {c c' : Nat → Nat} {S : Nat → Prop} (H : SL h c S) (H' : SL h' c' S) : h = h' ∧ ∀ i, i < h → c i = c' i := by
  have e : h = h' := Nat.le_antisymm (SL_le H H' (fun _ q => q)) (SL_le H' H (fun _ q => q))
  subst e
  refine ⟨rfl, fun i => ?_⟩
  induction i using Nat.strongRecOn with
  | _ i ih =>
    intro hi
    obtain ⟨j, j1, j2⟩ := (H'.2 (c i)).mp ((H.2 (c i)).mpr ⟨i, hi, rfl⟩)
    obtain ⟨k, k1, k2⟩ := (H.2 (c' i)).mp ((H'.2 (c' i)).mpr ⟨i, hi, rfl⟩)
    by_cases ji : j < i
    · have := ih j ji j1
      have := H.1 j i ji hi
      omega
    · by_cases ki : k < i
      · have := ih k ki k1
        have := H'.1 k i ki hi
        omega
      · have a : c' i ≤ c i := by
          by_cases e : j = i
          · rw [← j2, e]
            exact Nat.le_refl _
          · have := H'.1 i j (by omega) j1
            omega
        have b : c i ≤ c' i := by
          by_cases e : k = i
          · rw [← k2, e]
            exact Nat.le_refl _
          · have := H.1 i k (by omega) k1
            omega
        omega
