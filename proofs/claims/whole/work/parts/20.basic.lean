/-! PURE PART: numbers in range -/
theorem jz_ti {z : Int} (h1 : -2147483648 ≤ z) (h2 : z < 2147483648) : (jz z).toInt = z := Int32.toInt_ofInt_of_le h1 h2
theorem ltI_eq {a b : Int} (a1 : -2147483648 ≤ a) (a2 : a < 2147483648) (b1 : -2147483648 ≤ b) (b2 : b < 2147483648) : ltI a b = decide (a < b) := by
  unfold ltI
  congr 1
  rw [Int32.lt_iff_toInt_lt, jz_ti a1 a2, jz_ti b1 b2]
theorem jz_inj {a b : Int} (a1 : -2147483648 ≤ a) (a2 : a < 2147483648) (b1 : -2147483648 ≤ b) (b2 : b < 2147483648) : jz a = jz b ↔ a = b := by
  refine ⟨fun h => ?_, fun h => by rw [h]⟩
  have := congrArg Int32.toInt h
  rwa [jz_ti a1 a2, jz_ti b1 b2] at this
theorem eqI_eq {a b : Int} (a1 : -2147483648 ≤ a) (a2 : a < 2147483648) (b1 : -2147483648 ≤ b) (b2 : b < 2147483648) : eqI a b = decide (a = b) := by
  unfold eqI
  exact decide_eq_decide.mpr (jz_inj a1 a2 b1 b2)
theorem ix_eq {z : Int} (h1 : 0 ≤ z) (h2 : z < 2147483648) : ix z = z.toNat := by
  unfold ix
  show (jz z).toInt.toNat = _
  rw [jz_ti (by omega) h2]
theorem ix_nat {n : Nat} (h : n < 2147483648) : ix (n : Int) = n := by
  rw [ix_eq (by omega) (by omega)]
  omega
theorem iin_t {z : Int} {n : Nat} (h1 : 0 ≤ z) (h2 : z < n) (h3 : n < 2147483648) : iin z n = true := by
  unfold iin
  rw [ix_eq h1 (by omega)]
  have e : ¬ jz z < 0 := by
    rw [Int32.lt_iff_toInt_lt, jz_ti (by omega) (by omega)]
    simpa using h1
  simp [e]
  omega
