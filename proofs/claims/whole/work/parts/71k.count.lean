/-! PURE PART: how many bits -/
theorem uamt : ∀ k : Fin 32, (((jz (k.val : Int)).toUInt32 &&& Int32.toUInt32 31).toBitVec % 32).toNat = k.val := by decide +kernel
theorem ush_nat {a k : Nat} (ha : a < 2147483648) (hk : k < 32) : ushI a k = ((a >>> k : Nat) : Int) := by
  show ((jz a).toUInt32 >>> ((jz k).toUInt32 &&& Int32.toUInt32 31)).toBitVec.toInt = _
  have e : ((jz a).toUInt32 >>> ((jz k).toUInt32 &&& Int32.toUInt32 31)).toBitVec.toNat = a >>> k := by
    rw [UInt32.toBitVec_shiftRight]
    show ((jz a).toBitVec >>> (((jz k).toUInt32 &&& Int32.toUInt32 31).toBitVec % 32).toNat).toNat = _
    rw [show (((jz k).toUInt32 &&& Int32.toUInt32 31).toBitVec % 32).toNat = k from uamt ⟨k, hk⟩, BitVec.toNat_ushiftRight, jz_bv ha]
  have l : a >>> k ≤ a := Nat.shiftRight_le a k
  rw [bv_i (by omega), e]
def q1 (p : Nat) : Nat := p - ((p >>> 1) &&& 1431655765)
def q2 (p : Nat) : Nat := (p &&& 858993459) + ((p >>> 2) &&& 858993459)
def q3 (p : Nat) : Nat := (p + (p >>> 4)) &&& 252645135
def q4 (p : Nat) : Nat := p + (p >>> 8)
def q5 (p : Nat) : Nat := (p + (p >>> 16)) &&& 63
def pcN (p : Nat) : Nat := q5 (q4 (q3 (q2 (q1 p))))
theorem bitCount_nat {p : Nat} (hp : p < 2 ^ 25) : f_J6_bitCount_0f7a4 p = some ((pcN p : Nat) : Int) := by
  refine wp_e ?_
  unfold f_J6_bitCount_0f7a4
  have a1 : p >>> 1 ≤ p := Nat.shiftRight_le p 1
  have a2 : (p >>> 1) &&& 1431655765 ≤ p >>> 1 := Nat.and_le_left
  refine w_l (fun x1 e1 => ?_)
  rw [show (1 : Int) = ((1 : Nat) : Int) from rfl, ush_nat (by omega) (by omega), show (1431655765 : Int) = ((1431655765 : Nat) : Int) from rfl, and_nat (by omega) (by omega)] at e1
  have e1' : x1 = ((q1 p : Nat) : Int) := by
    rw [e1]
    unfold q1
    omega
  have b0 : q1 p ≤ p := Nat.sub_le _ _
  have b1 : q1 p >>> 2 ≤ q1 p := Nat.shiftRight_le _ 2
  have b2 : q1 p &&& 858993459 ≤ 858993459 := Nat.and_le_right
  have b3 : (q1 p >>> 2) &&& 858993459 ≤ 858993459 := Nat.and_le_right
  refine w_l (fun x2 e2 => ?_)
  rw [e1', show (2 : Int) = ((2 : Nat) : Int) from rfl, ush_nat (by omega) (by omega), show (858993459 : Int) = ((858993459 : Nat) : Int) from rfl, and_nat (by omega) (by omega), and_nat (by omega) (by omega)] at e2
  have e2' : x2 = ((q2 (q1 p) : Nat) : Int) := by
    rw [e2]
    unfold q2
    omega
  have c0 : q2 (q1 p) ≤ 1717986918 := by
    unfold q2
    omega
  have c1 : q2 (q1 p) >>> 4 = q2 (q1 p) / 2 ^ 4 := Nat.shiftRight_eq_div_pow _ _
  refine w_l (fun x3 e3 => ?_)
  rw [e2', show (4 : Int) = ((4 : Nat) : Int) from rfl, ush_nat (by omega) (by omega), show ((q2 (q1 p) : Nat) : Int) + ((q2 (q1 p) >>> 4 : Nat) : Int) = ((q2 (q1 p) + q2 (q1 p) >>> 4 : Nat) : Int) by omega, show (252645135 : Int) = ((252645135 : Nat) : Int) from rfl, and_nat (by omega) (by omega)] at e3
  have e3' : x3 = ((q3 (q2 (q1 p)) : Nat) : Int) := e3
  have d0 : q3 (q2 (q1 p)) ≤ 252645135 := Nat.and_le_right
  have d1 : q3 (q2 (q1 p)) >>> 8 ≤ q3 (q2 (q1 p)) := Nat.shiftRight_le _ 8
  refine w_l (fun x4 e4 => ?_)
  rw [e3', show (8 : Int) = ((8 : Nat) : Int) from rfl, ush_nat (by omega) (by omega)] at e4
  have e4' : x4 = ((q4 (q3 (q2 (q1 p))) : Nat) : Int) := by
    rw [e4]
    unfold q4
    omega
  have f0 : q4 (q3 (q2 (q1 p))) ≤ 505290270 := by
    unfold q4
    omega
  have f1 : q4 (q3 (q2 (q1 p))) >>> 16 ≤ q4 (q3 (q2 (q1 p))) := Nat.shiftRight_le _ 16
  refine w_l (fun x5 e5 => ?_)
  rw [e4', show (16 : Int) = ((16 : Nat) : Int) from rfl, ush_nat (by omega) (by omega), show ((q4 (q3 (q2 (q1 p))) : Nat) : Int) + ((q4 (q3 (q2 (q1 p))) >>> 16 : Nat) : Int) = ((q4 (q3 (q2 (q1 p))) + q4 (q3 (q2 (q1 p))) >>> 16 : Nat) : Int) by omega] at e5
  rw [e5, show (63 : Int) = ((63 : Nat) : Int) from rfl, and_nat (by omega) (by omega)]
  exact w_s rfl
def chk : List Nat → Nat → Nat → Bool
  | [], R, c => Nat.beq (pcN R) c
  | p :: l, R, c => chk l R c && chk l (R + 2 ^ p) (c + 1)
theorem chk_all : chk [0, 1, 2, 3, 4, 6, 7, 8, 9, 12, 13, 14, 18, 19, 24] 0 0 = true := by decide +kernel
def ls (f : Nat → Nat) : List Nat → Nat
  | [] => 0
  | p :: l => f p + ls f l
theorem chk_sound {b : Nat → Nat} (hb : ∀ i, b i = 0 ∨ b i = 1) : ∀ (l : List Nat) (R c : Nat), chk l R c = true → pcN (R + ls (fun i => b i * 2 ^ i) l) = c + ls b l
  | [], R, c, h => Nat.eq_of_beq_eq_true h
  | p :: l, R, c, h => by
    have h' : (chk l R c && chk l (R + 2 ^ p) (c + 1)) = true := h
    rw [Bool.and_eq_true] at h'
    show pcN (R + (b p * 2 ^ p + ls (fun i => b i * 2 ^ i) l)) = c + (b p + ls b l)
    rcases hb p with q | q
    · have := chk_sound hb l R c h'.1
      rw [q, Nat.zero_mul, Nat.zero_add, Nat.zero_add]
      exact this
    · have := chk_sound hb l (R + 2 ^ p) (c + 1) h'.2
      rw [q, Nat.one_mul, ← Nat.add_assoc, this]
      omega
