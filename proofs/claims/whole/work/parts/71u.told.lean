/-! PURE PART: rounds alike; told -/
def sq3 (a b : Nat) : Nat → Nat
  | 0 => 0
  | 1 => a
  | _ => b
theorem tour3 {g : Nat → Int} (l : List Nat) (hl : l.length = 2) (hv : VL 3 1 l) : ∃ s : Nat → Nat, (∀ x, x < 3 → s x < 3) ∧ INJ 3 s ∧ cyc 3 g s = wl g 0 l := by
  rcases l with _ | ⟨a, _ | ⟨b, _ | ⟨z, l⟩⟩⟩
  · simp at hl
  · simp at hl
  · obtain ⟨a0, an, ab, b0, bn, bb, -⟩ := hv
    have qab := bq_or1 bb
    have n0a : (0 : Nat) ≠ a := by omega
    have n0b : (0 : Nat) ≠ b := by omega
    have nab : a ≠ b := fun e => qab.2 e.symm
    refine ⟨sq3 a b, fun x hx => ?_, fun x hx b' hb => ?_, ?_⟩
    · have : x = 0 ∨ x = 1 ∨ x = 2 := by omega
      rcases this with rfl | rfl | rfl
      · exact (show 0 < 3 by omega)
      · exact an
      · exact bn
    · have : (x = 1 ∧ b' = 0) ∨ (x = 2 ∧ b' = 0) ∨ (x = 2 ∧ b' = 1) := by omega
      rcases this with ⟨rfl, rfl⟩ | ⟨rfl, rfl⟩ | ⟨rfl, rfl⟩
      · exact n0a
      · exact n0b
      · exact nab
    · show g (5 * b + 0) + (0 + g (5 * 0 + a) + g (5 * a + b)) = g (5 * 0 + a) + (g (5 * a + b) + (g (5 * b + 0)))
      omega
  · simp at hl
theorem order3 {g : Nat → Int} {s : Nat → Nat} (hs : ∀ x, x < 3 → s x < 3) (hi : INJ 3 s) : ∃ l : List Nat, l.length = 2 ∧ VL 3 1 l ∧ wl g 0 l = cyc 3 g s := by
  obtain ⟨k, hk, e⟩ := (sur_inj (n := 3) (by omega) (by omega) hs).mpr hi 0 (by omega)
  have l0 := hs 0 (by omega)
  have l1 := hs 1 (by omega)
  have l2 := hs 2 (by omega)
  have n01 := hi 1 (by omega) 0 (by omega)
  have n02 := hi 2 (by omega) 0 (by omega)
  have n12 := hi 2 (by omega) 1 (by omega)
  have : k = 0 ∨ k = 1 ∨ k = 2 := by omega
  rcases this with rfl | rfl | rfl
  · refine ⟨[s 1, s 2], rfl, ⟨by omega, by omega, b1z (show 0 < s 1 by omega), by omega, by omega, bq_or0 (b1z (show 0 < s 2 by omega)) (show s 2 ≠ s 1 by omega), trivial⟩, ?_⟩
    show g (5 * 0 + s 1) + (g (5 * s 1 + s 2) + (g (5 * s 2 + 0))) = g (5 * s 2 + s 0) + (0 + g (5 * s 0 + s 1) + g (5 * s 1 + s 2))
    rw [e]
    omega
  · refine ⟨[s 2, s 0], rfl, ⟨by omega, by omega, b1z (show 0 < s 2 by omega), by omega, by omega, bq_or0 (b1z (show 0 < s 0 by omega)) (show s 0 ≠ s 2 by omega), trivial⟩, ?_⟩
    show g (5 * 0 + s 2) + (g (5 * s 2 + s 0) + (g (5 * s 0 + 0))) = g (5 * s 2 + s 0) + (0 + g (5 * s 0 + s 1) + g (5 * s 1 + s 2))
    rw [e]
    omega
  · refine ⟨[s 0, s 1], rfl, ⟨by omega, by omega, b1z (show 0 < s 0 by omega), by omega, by omega, bq_or0 (b1z (show 0 < s 1 by omega)) (show s 1 ≠ s 0 by omega), trivial⟩, ?_⟩
    show g (5 * 0 + s 0) + (g (5 * s 0 + s 1) + (g (5 * s 1 + 0))) = g (5 * s 2 + s 0) + (0 + g (5 * s 0 + s 1) + g (5 * s 1 + s 2))
    rw [e]
    omega
def sq4 (a b c : Nat) : Nat → Nat
  | 0 => 0
  | 1 => a
  | 2 => b
  | _ => c
theorem tour4 {g : Nat → Int} (l : List Nat) (hl : l.length = 3) (hv : VL 4 1 l) : ∃ s : Nat → Nat, (∀ x, x < 4 → s x < 4) ∧ INJ 4 s ∧ cyc 4 g s = wl g 0 l := by
  rcases l with _ | ⟨a, _ | ⟨b, _ | ⟨c, _ | ⟨z, l⟩⟩⟩⟩
  · simp at hl
  · simp at hl
  · simp at hl
  · obtain ⟨a0, an, ab, b0, bn, bb, c0, cn, cb, -⟩ := hv
    have qab := bq_or1 bb
    have qbc := bq_or1 cb
    have qac := bq_or1 qbc.1
    have n0a : (0 : Nat) ≠ a := by omega
    have n0b : (0 : Nat) ≠ b := by omega
    have nab : a ≠ b := fun e => qab.2 e.symm
    have n0c : (0 : Nat) ≠ c := by omega
    have nac : a ≠ c := fun e => qac.2 e.symm
    have nbc : b ≠ c := fun e => qbc.2 e.symm
    refine ⟨sq4 a b c, fun x hx => ?_, fun x hx b' hb => ?_, ?_⟩
    · have : x = 0 ∨ x = 1 ∨ x = 2 ∨ x = 3 := by omega
      rcases this with rfl | rfl | rfl | rfl
      · exact (show 0 < 4 by omega)
      · exact an
      · exact bn
      · exact cn
    · have : (x = 1 ∧ b' = 0) ∨ (x = 2 ∧ b' = 0) ∨ (x = 2 ∧ b' = 1) ∨ (x = 3 ∧ b' = 0) ∨ (x = 3 ∧ b' = 1) ∨ (x = 3 ∧ b' = 2) := by omega
      rcases this with ⟨rfl, rfl⟩ | ⟨rfl, rfl⟩ | ⟨rfl, rfl⟩ | ⟨rfl, rfl⟩ | ⟨rfl, rfl⟩ | ⟨rfl, rfl⟩
      · exact n0a
      · exact n0b
      · exact nab
      · exact n0c
      · exact nac
      · exact nbc
    · show g (5 * c + 0) + (0 + g (5 * 0 + a) + g (5 * a + b) + g (5 * b + c)) = g (5 * 0 + a) + (g (5 * a + b) + (g (5 * b + c) + (g (5 * c + 0))))
      omega
  · simp at hl
theorem order4 {g : Nat → Int} {s : Nat → Nat} (hs : ∀ x, x < 4 → s x < 4) (hi : INJ 4 s) : ∃ l : List Nat, l.length = 3 ∧ VL 4 1 l ∧ wl g 0 l = cyc 4 g s := by
  obtain ⟨k, hk, e⟩ := (sur_inj (n := 4) (by omega) (by omega) hs).mpr hi 0 (by omega)
  have l0 := hs 0 (by omega)
  have l1 := hs 1 (by omega)
  have l2 := hs 2 (by omega)
  have l3 := hs 3 (by omega)
  have n01 := hi 1 (by omega) 0 (by omega)
  have n02 := hi 2 (by omega) 0 (by omega)
  have n12 := hi 2 (by omega) 1 (by omega)
  have n03 := hi 3 (by omega) 0 (by omega)
  have n13 := hi 3 (by omega) 1 (by omega)
  have n23 := hi 3 (by omega) 2 (by omega)
  have : k = 0 ∨ k = 1 ∨ k = 2 ∨ k = 3 := by omega
  rcases this with rfl | rfl | rfl | rfl
  · refine ⟨[s 1, s 2, s 3], rfl, ⟨by omega, by omega, b1z (show 0 < s 1 by omega), by omega, by omega, bq_or0 (b1z (show 0 < s 2 by omega)) (show s 2 ≠ s 1 by omega), by omega, by omega, bq_or0 (bq_or0 (b1z (show 0 < s 3 by omega)) (show s 3 ≠ s 1 by omega)) (show s 3 ≠ s 2 by omega), trivial⟩, ?_⟩
    show g (5 * 0 + s 1) + (g (5 * s 1 + s 2) + (g (5 * s 2 + s 3) + (g (5 * s 3 + 0)))) = g (5 * s 3 + s 0) + (0 + g (5 * s 0 + s 1) + g (5 * s 1 + s 2) + g (5 * s 2 + s 3))
    rw [e]
    omega
  · refine ⟨[s 2, s 3, s 0], rfl, ⟨by omega, by omega, b1z (show 0 < s 2 by omega), by omega, by omega, bq_or0 (b1z (show 0 < s 3 by omega)) (show s 3 ≠ s 2 by omega), by omega, by omega, bq_or0 (bq_or0 (b1z (show 0 < s 0 by omega)) (show s 0 ≠ s 2 by omega)) (show s 0 ≠ s 3 by omega), trivial⟩, ?_⟩
    show g (5 * 0 + s 2) + (g (5 * s 2 + s 3) + (g (5 * s 3 + s 0) + (g (5 * s 0 + 0)))) = g (5 * s 3 + s 0) + (0 + g (5 * s 0 + s 1) + g (5 * s 1 + s 2) + g (5 * s 2 + s 3))
    rw [e]
    omega
  · refine ⟨[s 3, s 0, s 1], rfl, ⟨by omega, by omega, b1z (show 0 < s 3 by omega), by omega, by omega, bq_or0 (b1z (show 0 < s 0 by omega)) (show s 0 ≠ s 3 by omega), by omega, by omega, bq_or0 (bq_or0 (b1z (show 0 < s 1 by omega)) (show s 1 ≠ s 3 by omega)) (show s 1 ≠ s 0 by omega), trivial⟩, ?_⟩
    show g (5 * 0 + s 3) + (g (5 * s 3 + s 0) + (g (5 * s 0 + s 1) + (g (5 * s 1 + 0)))) = g (5 * s 3 + s 0) + (0 + g (5 * s 0 + s 1) + g (5 * s 1 + s 2) + g (5 * s 2 + s 3))
    rw [e]
    omega
  · refine ⟨[s 0, s 1, s 2], rfl, ⟨by omega, by omega, b1z (show 0 < s 0 by omega), by omega, by omega, bq_or0 (b1z (show 0 < s 1 by omega)) (show s 1 ≠ s 0 by omega), by omega, by omega, bq_or0 (bq_or0 (b1z (show 0 < s 2 by omega)) (show s 2 ≠ s 0 by omega)) (show s 2 ≠ s 1 by omega), trivial⟩, ?_⟩
    show g (5 * 0 + s 0) + (g (5 * s 0 + s 1) + (g (5 * s 1 + s 2) + (g (5 * s 2 + 0)))) = g (5 * s 3 + s 0) + (0 + g (5 * s 0 + s 1) + g (5 * s 1 + s 2) + g (5 * s 2 + s 3))
    rw [e]
    omega
def sq5 (a b c d : Nat) : Nat → Nat
  | 0 => 0
  | 1 => a
  | 2 => b
  | 3 => c
  | _ => d
theorem tour5 {g : Nat → Int} (l : List Nat) (hl : l.length = 4) (hv : VL 5 1 l) : ∃ s : Nat → Nat, (∀ x, x < 5 → s x < 5) ∧ INJ 5 s ∧ cyc 5 g s = wl g 0 l := by
  rcases l with _ | ⟨a, _ | ⟨b, _ | ⟨c, _ | ⟨d, _ | ⟨z, l⟩⟩⟩⟩⟩
  · simp at hl
  · simp at hl
  · simp at hl
  · simp at hl
  · obtain ⟨a0, an, ab, b0, bn, bb, c0, cn, cb, d0, dn, db, -⟩ := hv
    have qab := bq_or1 bb
    have qbc := bq_or1 cb
    have qac := bq_or1 qbc.1
    have qcd := bq_or1 db
    have qbd := bq_or1 qcd.1
    have qad := bq_or1 qbd.1
    have n0a : (0 : Nat) ≠ a := by omega
    have n0b : (0 : Nat) ≠ b := by omega
    have nab : a ≠ b := fun e => qab.2 e.symm
    have n0c : (0 : Nat) ≠ c := by omega
    have nac : a ≠ c := fun e => qac.2 e.symm
    have nbc : b ≠ c := fun e => qbc.2 e.symm
    have n0d : (0 : Nat) ≠ d := by omega
    have nad : a ≠ d := fun e => qad.2 e.symm
    have nbd : b ≠ d := fun e => qbd.2 e.symm
    have ncd : c ≠ d := fun e => qcd.2 e.symm
    refine ⟨sq5 a b c d, fun x hx => ?_, fun x hx b' hb => ?_, ?_⟩
    · have : x = 0 ∨ x = 1 ∨ x = 2 ∨ x = 3 ∨ x = 4 := by omega
      rcases this with rfl | rfl | rfl | rfl | rfl
      · exact (show 0 < 5 by omega)
      · exact an
      · exact bn
      · exact cn
      · exact dn
    · have : (x = 1 ∧ b' = 0) ∨ (x = 2 ∧ b' = 0) ∨ (x = 2 ∧ b' = 1) ∨ (x = 3 ∧ b' = 0) ∨ (x = 3 ∧ b' = 1) ∨ (x = 3 ∧ b' = 2) ∨ (x = 4 ∧ b' = 0) ∨ (x = 4 ∧ b' = 1) ∨ (x = 4 ∧ b' = 2) ∨ (x = 4 ∧ b' = 3) := by omega
      rcases this with ⟨rfl, rfl⟩ | ⟨rfl, rfl⟩ | ⟨rfl, rfl⟩ | ⟨rfl, rfl⟩ | ⟨rfl, rfl⟩ | ⟨rfl, rfl⟩ | ⟨rfl, rfl⟩ | ⟨rfl, rfl⟩ | ⟨rfl, rfl⟩ | ⟨rfl, rfl⟩
      · exact n0a
      · exact n0b
      · exact nab
      · exact n0c
      · exact nac
      · exact nbc
      · exact n0d
      · exact nad
      · exact nbd
      · exact ncd
    · show g (5 * d + 0) + (0 + g (5 * 0 + a) + g (5 * a + b) + g (5 * b + c) + g (5 * c + d)) = g (5 * 0 + a) + (g (5 * a + b) + (g (5 * b + c) + (g (5 * c + d) + (g (5 * d + 0)))))
      omega
  · simp at hl
theorem order5 {g : Nat → Int} {s : Nat → Nat} (hs : ∀ x, x < 5 → s x < 5) (hi : INJ 5 s) : ∃ l : List Nat, l.length = 4 ∧ VL 5 1 l ∧ wl g 0 l = cyc 5 g s := by
  obtain ⟨k, hk, e⟩ := (sur_inj (n := 5) (by omega) (by omega) hs).mpr hi 0 (by omega)
  have l0 := hs 0 (by omega)
  have l1 := hs 1 (by omega)
  have l2 := hs 2 (by omega)
  have l3 := hs 3 (by omega)
  have l4 := hs 4 (by omega)
  have n01 := hi 1 (by omega) 0 (by omega)
  have n02 := hi 2 (by omega) 0 (by omega)
  have n12 := hi 2 (by omega) 1 (by omega)
  have n03 := hi 3 (by omega) 0 (by omega)
  have n13 := hi 3 (by omega) 1 (by omega)
  have n23 := hi 3 (by omega) 2 (by omega)
  have n04 := hi 4 (by omega) 0 (by omega)
  have n14 := hi 4 (by omega) 1 (by omega)
  have n24 := hi 4 (by omega) 2 (by omega)
  have n34 := hi 4 (by omega) 3 (by omega)
  have : k = 0 ∨ k = 1 ∨ k = 2 ∨ k = 3 ∨ k = 4 := by omega
  rcases this with rfl | rfl | rfl | rfl | rfl
  · refine ⟨[s 1, s 2, s 3, s 4], rfl, ⟨by omega, by omega, b1z (show 0 < s 1 by omega), by omega, by omega, bq_or0 (b1z (show 0 < s 2 by omega)) (show s 2 ≠ s 1 by omega), by omega, by omega, bq_or0 (bq_or0 (b1z (show 0 < s 3 by omega)) (show s 3 ≠ s 1 by omega)) (show s 3 ≠ s 2 by omega), by omega, by omega, bq_or0 (bq_or0 (bq_or0 (b1z (show 0 < s 4 by omega)) (show s 4 ≠ s 1 by omega)) (show s 4 ≠ s 2 by omega)) (show s 4 ≠ s 3 by omega), trivial⟩, ?_⟩
    show g (5 * 0 + s 1) + (g (5 * s 1 + s 2) + (g (5 * s 2 + s 3) + (g (5 * s 3 + s 4) + (g (5 * s 4 + 0))))) = g (5 * s 4 + s 0) + (0 + g (5 * s 0 + s 1) + g (5 * s 1 + s 2) + g (5 * s 2 + s 3) + g (5 * s 3 + s 4))
    rw [e]
    omega
  · refine ⟨[s 2, s 3, s 4, s 0], rfl, ⟨by omega, by omega, b1z (show 0 < s 2 by omega), by omega, by omega, bq_or0 (b1z (show 0 < s 3 by omega)) (show s 3 ≠ s 2 by omega), by omega, by omega, bq_or0 (bq_or0 (b1z (show 0 < s 4 by omega)) (show s 4 ≠ s 2 by omega)) (show s 4 ≠ s 3 by omega), by omega, by omega, bq_or0 (bq_or0 (bq_or0 (b1z (show 0 < s 0 by omega)) (show s 0 ≠ s 2 by omega)) (show s 0 ≠ s 3 by omega)) (show s 0 ≠ s 4 by omega), trivial⟩, ?_⟩
    show g (5 * 0 + s 2) + (g (5 * s 2 + s 3) + (g (5 * s 3 + s 4) + (g (5 * s 4 + s 0) + (g (5 * s 0 + 0))))) = g (5 * s 4 + s 0) + (0 + g (5 * s 0 + s 1) + g (5 * s 1 + s 2) + g (5 * s 2 + s 3) + g (5 * s 3 + s 4))
    rw [e]
    omega
  · refine ⟨[s 3, s 4, s 0, s 1], rfl, ⟨by omega, by omega, b1z (show 0 < s 3 by omega), by omega, by omega, bq_or0 (b1z (show 0 < s 4 by omega)) (show s 4 ≠ s 3 by omega), by omega, by omega, bq_or0 (bq_or0 (b1z (show 0 < s 0 by omega)) (show s 0 ≠ s 3 by omega)) (show s 0 ≠ s 4 by omega), by omega, by omega, bq_or0 (bq_or0 (bq_or0 (b1z (show 0 < s 1 by omega)) (show s 1 ≠ s 3 by omega)) (show s 1 ≠ s 4 by omega)) (show s 1 ≠ s 0 by omega), trivial⟩, ?_⟩
    show g (5 * 0 + s 3) + (g (5 * s 3 + s 4) + (g (5 * s 4 + s 0) + (g (5 * s 0 + s 1) + (g (5 * s 1 + 0))))) = g (5 * s 4 + s 0) + (0 + g (5 * s 0 + s 1) + g (5 * s 1 + s 2) + g (5 * s 2 + s 3) + g (5 * s 3 + s 4))
    rw [e]
    omega
  · refine ⟨[s 4, s 0, s 1, s 2], rfl, ⟨by omega, by omega, b1z (show 0 < s 4 by omega), by omega, by omega, bq_or0 (b1z (show 0 < s 0 by omega)) (show s 0 ≠ s 4 by omega), by omega, by omega, bq_or0 (bq_or0 (b1z (show 0 < s 1 by omega)) (show s 1 ≠ s 4 by omega)) (show s 1 ≠ s 0 by omega), by omega, by omega, bq_or0 (bq_or0 (bq_or0 (b1z (show 0 < s 2 by omega)) (show s 2 ≠ s 4 by omega)) (show s 2 ≠ s 0 by omega)) (show s 2 ≠ s 1 by omega), trivial⟩, ?_⟩
    show g (5 * 0 + s 4) + (g (5 * s 4 + s 0) + (g (5 * s 0 + s 1) + (g (5 * s 1 + s 2) + (g (5 * s 2 + 0))))) = g (5 * s 4 + s 0) + (0 + g (5 * s 0 + s 1) + g (5 * s 1 + s 2) + g (5 * s 2 + s 3) + g (5 * s 3 + s 4))
    rw [e]
    omega
  · refine ⟨[s 0, s 1, s 2, s 3], rfl, ⟨by omega, by omega, b1z (show 0 < s 0 by omega), by omega, by omega, bq_or0 (b1z (show 0 < s 1 by omega)) (show s 1 ≠ s 0 by omega), by omega, by omega, bq_or0 (bq_or0 (b1z (show 0 < s 2 by omega)) (show s 2 ≠ s 0 by omega)) (show s 2 ≠ s 1 by omega), by omega, by omega, bq_or0 (bq_or0 (bq_or0 (b1z (show 0 < s 3 by omega)) (show s 3 ≠ s 0 by omega)) (show s 3 ≠ s 1 by omega)) (show s 3 ≠ s 2 by omega), trivial⟩, ?_⟩
    show g (5 * 0 + s 0) + (g (5 * s 0 + s 1) + (g (5 * s 1 + s 2) + (g (5 * s 2 + s 3) + (g (5 * s 3 + 0))))) = g (5 * s 4 + s 0) + (0 + g (5 * s 0 + s 1) + g (5 * s 1 + s 2) + g (5 * s 2 + s 3) + g (5 * s 3 + s 4))
    rw [e]
    omega
theorem tour_n {n : Nat} {g : Nat → Int} (h3 : 3 ≤ n) (h5 : n ≤ 5) (l : List Nat) (hl : l.length = n - 1) (hv : VL n 1 l) : ∃ s : Nat → Nat, (∀ x, x < n → s x < n) ∧ INJ n s ∧ cyc n g s = wl g 0 l := by
  have hn : n = 3 ∨ n = 4 ∨ n = 5 := by omega
  rcases hn with rfl | rfl | rfl
  · exact tour3 l hl hv
  · exact tour4 l hl hv
  · exact tour5 l hl hv
theorem order_n {n : Nat} {g : Nat → Int} {s : Nat → Nat} (h3 : 3 ≤ n) (h5 : n ≤ 5) (hs : ∀ x, x < n → s x < n) (hi : INJ n s) : ∃ l : List Nat, l.length = n - 1 ∧ VL n 1 l ∧ wl g 0 l = cyc n g s := by
  have hn : n = 3 ∨ n = 4 ∨ n = 5 := by omega
  rcases hn with rfl | rfl | rfl
  · exact order3 hs hi
  · exact order4 hs hi
  · exact order5 hs hi
theorem INJ_c {n : Nat} {s s' : Nat → Nat} (e : ∀ x, x < n → s' x = s x) (h : INJ n s) : INJ n s' := fun x hx b hb => by
  rw [e x hx, e b (by omega)]
  exact h x hx b hb
theorem round_same {n : Nat} {g far ord : Nat → Int} (h3 : 3 ≤ n) (h5 : n ≤ 5) (tg : Tb g) (tf : Tb far) (ag : Ag n g far) : ∃ r o, f_X4_leastRound n g = some r ∧ f_X9_round n far ord = some (r, o) := by
  have en : (n : Int) - 1 = ((n - 1 : Nat) : Int) := by omega
  obtain ⟨⟨r, o⟩, e1, a1, a2⟩ := round_X9 (ord := ord) h3 h5 tf
  have a1' : ∀ o, o < n ^ n → INJ n (nxt n o) → 0 ≤ r ∧ r ≤ cyc n far (nxt n o) := a1
  have a2' : r = -1 ∨ ∃ o, o < n ^ n ∧ INJ n (nxt n o) ∧ r = cyc n far (nxt n o) := a2
  obtain ⟨q, e2, b1, b2, b3, b4⟩ := way_X4 (n := n) (g := g) h3 h5 tg (n - 1) 8 0 1 ⟨by omega, by omega⟩ (by omega) (by omega)
  have one : ∃ s : Nat → Nat, (∀ x, x < n → s x < n) ∧ INJ n s := ⟨fun x => x, fun x hx => hx, fun x hx b hb => by show b ≠ x; omega⟩
  obtain ⟨s0, s1, s2⟩ := one
  obtain ⟨o0, o1, o2⟩ := nxt_of h3 h5 s0 s1
  have r0 := a1' o0 o1 (INJ_c o2 s2)
  obtain ⟨l0, l1, l2, l3⟩ := order_n (g := g) h3 h5 s1 s2
  have q0 := b3 l0 l1 l2
  have c0 := cyl_in h5 tg s1 (n - 1) (by omega)
  have q1 : q ≤ 300 := by
    have t := tg (s0 (n - 1)) (s0 0) (by have := s1 (n - 1) (by omega); omega) (by have := s1 0 (by omega); omega)
    rw [l3] at q0
    unfold cyc at q0
    omega
  have le1 : r ≤ q := by
    rcases b4 with w | ⟨l, w1, w2, w3⟩
    · omega
    · obtain ⟨s, t1, t2, t3⟩ := tour_n (g := g) h3 h5 l w1 w2
      obtain ⟨o', p1, p2⟩ := nxt_of h3 h5 s t1
      have := a1' o' p1 (INJ_c p2 t2)
      rw [← cyc_c h3 ag t1 p2, t3, ← w3] at this
      exact this.2
  have le2 : q ≤ r := by
    rcases a2' with w | ⟨o', p1, p2, p3⟩
    · omega
    · have sl : ∀ x, x < n → nxt n o' x < n := fun x _ => nxt_lt (by omega)
      obtain ⟨l, w1, w2, w3⟩ := order_n (g := g) h3 h5 sl p2
      have := b3 l w1 w2
      rw [w3, cyc_c h3 ag sl (fun x _ => rfl), ← p3] at this
      exact this
  have e : q = r := by omega
  subst e
  refine ⟨q, o, ?_, e1⟩
  refine wp_e ?_
  unfold f_X4_leastRound
  rw [en]
  exact w_b1s e2 (w_s rfl)
