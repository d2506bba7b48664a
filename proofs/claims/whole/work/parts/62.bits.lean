/-! PURE PART: bits of whole numbers -/
theorem jz_bv {a : Nat} (h : a < 2147483648) : (jz (a : Int)).toBitVec.toNat = a := by
  show (BitVec.ofInt 32 (a : Int)).toNat = a
  rw [BitVec.ofInt_natCast, BitVec.toNat_ofNat]
  exact Nat.mod_eq_of_lt (by omega)
theorem bv_i {v : BitVec 32} (h : v.toNat < 2147483648) : v.toInt = (v.toNat : Int) := BitVec.toInt_eq_toNat_of_lt (by omega)
theorem and_nat {a b : Nat} (ha : a < 2147483648) (hb : b < 2147483648) : andI a b = ((a &&& b : Nat) : Int) := by
  show (jz a &&& jz b).toBitVec.toInt = _
  have e : (jz a &&& jz b).toBitVec.toNat = a &&& b := by
    rw [Int32.toBitVec_and, BitVec.toNat_and, jz_bv ha, jz_bv hb]
  have l : a &&& b ≤ a := Nat.and_le_left
  rw [bv_i (by omega), e]
theorem or_nat {a b : Nat} (ha : a < 2147483648) (hb : b < 2147483648) : orI a b = ((a ||| b : Nat) : Int) := by
  show (jz a ||| jz b).toBitVec.toInt = _
  have e : (jz a ||| jz b).toBitVec.toNat = a ||| b := by
    rw [Int32.toBitVec_or, BitVec.toNat_or, jz_bv ha, jz_bv hb]
  have l : a ||| b < 2 ^ 31 := Nat.or_lt_two_pow (by omega) (by omega)
  rw [bv_i (by omega), e]
theorem amt : ∀ k : Fin 32, ((jz (k.val : Int) &&& 31).toBitVec.smod 32).toNat = k.val := by decide +kernel
theorem shr_nat {a k : Nat} (ha : a < 2147483648) (hk : k < 32) : shrI a k = ((a >>> k : Nat) : Int) := by
  show (jz a >>> (jz k &&& 31)).toBitVec.toInt = _
  have e : (jz a >>> (jz k &&& 31)).toBitVec.toNat = a >>> k := by
    rw [Int32.toBitVec_shiftRight]
    show ((jz a).toBitVec.sshiftRight ((jz k &&& 31).toBitVec.smod 32).toNat).toNat = _
    rw [show ((jz k &&& 31).toBitVec.smod 32).toNat = k from amt ⟨k, hk⟩, BitVec.sshiftRight_eq_of_msb_false (BitVec.msb_eq_false_iff_two_mul_lt.mpr (by rw [jz_bv ha]; omega)), BitVec.toNat_ushiftRight, jz_bv ha]
  have l : a >>> k ≤ a := Nat.shiftRight_le a k
  rw [bv_i (by omega), e]
theorem shl_nat {a k : Nat} (ha : a < 2147483648) (hk : k < 32) (h : a <<< k < 2147483648) : shlI a k = ((a <<< k : Nat) : Int) := by
  show (jz a <<< (jz k &&& 31)).toBitVec.toInt = _
  have e : (jz a <<< (jz k &&& 31)).toBitVec.toNat = a <<< k := by
    rw [Int32.toBitVec_shiftLeft]
    show ((jz a).toBitVec <<< ((jz k &&& 31).toBitVec.smod 32).toNat).toNat = _
    rw [show ((jz k &&& 31).toBitVec.smod 32).toNat = k from amt ⟨k, hk⟩, BitVec.toNat_shiftLeft, jz_bv ha]
    exact Nat.mod_eq_of_lt (by omega)
  rw [bv_i (by omega), e]
/-- bit k of R, as a truth -/
theorem bq_t (R k : Nat) : bq R k = 1 ↔ R.testBit k = true := by
  rw [Nat.testBit_eq_decide_div_mod_eq]
  unfold bq
  exact decide_eq_true_iff.symm
theorem bq_or (a b k : Nat) : bq (a ||| b) k = 1 ↔ bq a k = 1 ∨ bq b k = 1 := by
  rw [bq_t, bq_t, bq_t, Nat.testBit_or, Bool.or_eq_true]
theorem bq_and (a b k : Nat) : bq (a &&& b) k = 1 ↔ bq a k = 1 ∧ bq b k = 1 := by
  rw [bq_t, bq_t, bq_t, Nat.testBit_and, Bool.and_eq_true]
theorem bq_shr (a j k : Nat) : bq (a >>> j) k = bq a (j + k) := by
  have h : bq (a >>> j) k = 1 ↔ bq a (j + k) = 1 := by rw [bq_t, bq_t, Nat.testBit_shiftRight]
  have h1 := bq_c (a >>> j) k
  have h2 := bq_c a (j + k)
  omega
theorem bq_one (j k : Nat) : bq (1 <<< j) k = 1 ↔ k = j := by
  rw [bq_t, Nat.one_shiftLeft, Nat.testBit_two_pow]
  exact decide_eq_true_iff.trans ⟨fun h => h.symm, fun h => h.symm⟩
theorem bq_shl (a j k : Nat) : bq (a <<< j) k = 1 ↔ j ≤ k ∧ bq a (k - j) = 1 := by
  rw [bq_t, bq_t, Nat.testBit_shiftLeft, Bool.and_eq_true]
  exact and_congr decide_eq_true_iff Iff.rfl
theorem bq_z (k : Nat) : bq 0 k = 0 := by
  unfold bq
  simp
theorem bq_lt {a n k : Nat} (h : a < 2 ^ n) (hk : n ≤ k) : bq a k = 0 := by
  have := Nat.testBit_lt_two_pow (x := a) (i := k) (Nat.lt_of_lt_of_le h (Nat.pow_le_pow_right (by omega) hk))
  have e := bq_t a k
  rw [this] at e
  have := bq_c a k
  rcases this with q | q
  · exact q
  · exact absurd (e.mp q) (by decide)
theorem bq_31 (k : Nat) : bq 31 k = 1 ↔ k < 5 := by
  rw [bq_t, show (31 : Nat) = 2 ^ 5 - 1 from rfl, Nat.testBit_two_pow_sub_one]
  exact decide_eq_true_iff
theorem bq_ext {a b : Nat} (h : ∀ k, bq a k = 1 ↔ bq b k = 1) : a = b := Nat.eq_of_testBit_eq (fun k => by
  have := h k
  rw [bq_t, bq_t] at this
  exact Bool.eq_iff_iff.mpr this)
theorem bit_at {R k : Nat} (hR : R < 2147483648) (hk : k < 32) : andI (shrI R k) 1 = (bq R k : Int) := by
  have l : R >>> k ≤ R := Nat.shiftRight_le R k
  rw [shr_nat hR hk, show (1 : Int) = ((1 : Nat) : Int) from rfl, and_nat (by omega) (by omega), Nat.and_one_is_mod, Nat.shiftRight_eq_div_pow]
  rfl
theorem one_shl {k : Nat} (hk : k < 31) : shlI 1 k = ((1 <<< k : Nat) : Int) := by
  have l : 1 <<< k < 2147483648 := by
    rw [Nat.one_shiftLeft]
    exact Nat.pow_lt_pow_right (a := 2) (by omega) hk
  have := shl_nat (a := 1) (k := k) (by omega) (by omega) l
  exact this
theorem one_lt {k n : Nat} (hk : k < n) : 1 <<< k < 2 ^ n := by
  rw [Nat.one_shiftLeft]
  exact Nat.pow_lt_pow_right (by omega) hk
/-- the sum of the bits' worth -/
def dg (R : Nat) : Nat → Nat
  | 0 => 0
  | n + 1 => dg R n + bq R n * 2 ^ n
theorem dg_e (R : Nat) : ∀ n, dg R n = R % 2 ^ n
  | 0 => by
    show 0 = R % 1
    omega
  | n + 1 => by
    show dg R n + bq R n * 2 ^ n = _
    rw [dg_e R n, Nat.mod_pow_succ, Nat.mul_comm]
    rfl
