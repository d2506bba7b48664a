/-! PURE PART: when the two states tell the same -/
/-- a row of five by five: distances, the same both ways, of one and itself 0 -/
def Tb (g : Nat → Int) : Prop := ∀ i j : Nat, i < 5 → j < 5 → 0 ≤ g (5 * i + j) ∧ g (5 * i + j) ≤ 40 ∧ g (5 * i + j) = g (5 * j + i) ∧ g (5 * i + i) = 0
/-- as far as the points go -/
def Ag (n : Int) (g far : Nat → Int) : Prop := ∀ i j : Nat, (i : Int) < n → (j : Int) < n → g (5 * i + j) = far (5 * i + j)
def RTab (n : Int) (g : Nat → Int) (m : Int) (far : Nat → Int) : Prop := m = n ∧ 3 ≤ n ∧ n ≤ 5 ∧ Tb g ∧ Tb far ∧ Ag n g far
def RNum (a b : Nat → Int) : Prop := ∀ k : Nat, k < 5 → a k = b k ∧ 0 ≤ a k ∧ a k ≤ 160
def RMap (n : Int) (a b : Nat → Int) : Prop := ∀ k : Nat, k < 5 → a k = b k ∧ 0 ≤ a k ∧ a k < 5 ∧ ((k : Int) < n → a k < n)
def RSeen (h : Int) (c : Nat → Int) (m : Int) (s w : Nat → Int) : Prop := m = h ∧ 0 ≤ h ∧ h ≤ 4 ∧ ∀ k : Nat, (k : Int) < h → c (3 * k) = s k ∧ c (3 * k + 1) = w k ∧ 2 ≤ s k ∧ s k ≤ 30 ∧ 0 ≤ w k ∧ w k ≤ 99
def REv (h : Int) (c : Nat → Int) (m : Int) (s w : Nat → Int) : Prop := m = h ∧ 0 ≤ h ∧ h ≤ 8 ∧ ∀ k : Nat, (k : Int) < h → c (3 * k) = s k ∧ c (3 * k + 1) = w k ∧ ((s k = 0 ∧ 0 ≤ w k ∧ w k ≤ 4) ∨ (s k = 1 ∧ 0 ≤ w k ∧ w k ≤ 9) ∨ (s k = 2 ∧ w k = 0))
def RBook (h : Int) (c : Nat → Int) (m : Int) (a b d : Nat → Int) : Prop := m = h ∧ 0 ≤ h ∧ h ≤ 8 ∧ ∀ k : Nat, (k : Int) < h → c (3 * k) = a k ∧ c (3 * k + 1) = b k ∧ c (3 * k + 2) = d k ∧ 0 ≤ a k ∧ a k ≤ 4 ∧ 0 ≤ b k ∧ b k ≤ 4 ∧ 0 ≤ d k ∧ d k ≤ 40
def RText (h : Int) (s : Nat → Int) (m : Int) (t : Nat → Int) : Prop := m = h ∧ 0 ≤ h ∧ h ≤ 100 ∧ ∀ k : Nat, (k : Int) < h → s k = t k ∧ 0 ≤ s k ∧ s k ≤ 127
def RTape (so le : Nat → Int) (it : Nat → Nat → Int64) (so' le' : Nat → Int) (cl : Nat → Int64) : Prop := ∀ t : Nat, t < 6 → so t = so' t ∧ -1 ≤ so t ∧ so t ≤ 4 ∧ le t = le' t ∧ 0 ≤ le t ∧ le t ≤ 60 ∧ ∀ k : Nat, (k : Int) < le t → it t k = cl (60 * t + k)
/-- all that an image has: the class's table, numbers, map, rows; the reference's -/
def RSet (n : Int) (g nu im : Nat → Int) (sh : Int) (sc : Nat → Int) (eh : Int) (ec : Nat → Int) (bh : Int) (bc : Nat → Int) (m : Int) (far nb be : Nat → Int) (s : Int) (sS sW : Nat → Int) (e : Int) (eW eB : Nat → Int) (b : Int) (b1 b2 b3 : Nat → Int) : Prop :=
  RTab n g m far ∧ RNum nu nb ∧ RMap n im be ∧ RSeen sh sc s sS sW ∧ REv eh ec e eW eB ∧ RBook bh bc b b1 b2 b3
def RImg (t n : Int) (g nu im : Nat → Int) (sh : Int) (sc : Nat → Int) (eh : Int) (ec : Nat → Int) (bh : Int) (bc : Nat → Int) (t' : Int) (I : Nat → Int) : Prop :=
  (t = 0 ∨ t = 1) ∧ t' = t ∧ (t = 1 → RSet n g nu im sh sc eh ec bh bc (I 83) I (fun k => I (25 + k)) (fun k => I (30 + k)) (I 84) (fun k => I (35 + k)) (fun k => I (39 + k)) (I 85) (fun k => I (43 + k)) (fun k => I (51 + k)) (I 86) (fun k => I (59 + k)) (fun k => I (67 + k)) (fun k => I (75 + k)))
def sm (f : Nat → Int) : Nat → Int
  | 0 => 0
  | n + 1 => sm f n + f n
/-- a split of the points; its weight -/
def Spl (n s : Nat) : Prop := s % 2 = 0 ∧ 0 < s ∧ s < 2 ^ n
def WT (n : Nat) (g : Nat → Int) (s : Nat) : Int := (f_X4_weightOf s n g).getD 0
/-- the splits 2 .. 2 k that count, in their order: h of them -/
def SpP (n : Nat) (g : Nat → Int) (k h : Nat) (b w : Nat → Int) : Prop := h ≤ k ∧ (∀ i, i < h → ∃ s : Nat, b i = s ∧ s % 2 = 0 ∧ 2 ≤ s ∧ s ≤ 2 * k ∧ w i = WT n g s ∧ 0 < WT n g s) ∧ (∀ i j, i < j → j < h → w j < w i ∨ (w j = w i ∧ b i < b j)) ∧ ∀ f : Nat → Int, sm (fun i => f (b i).toNat) h = sm (fun j => if 0 < WT n g (2 * j + 2) then f (2 * j + 2) else 0) k
def SpL (n : Nat) (held : Int) (g b w : Nat → Int) : Prop := ∃ h : Nat, held = h ∧ SpP n g (2 ^ (n - 1) - 1) h b w
def SpOk (fol held n : Int) (g b w : Nat → Int) : Prop := (fol = 0 ∨ fol = 1) ∧ (fol = 1 → ∃ m : Nat, n = m ∧ 3 ≤ m ∧ m ≤ 5 ∧ Tb g ∧ SpL m held g b w)
/-- what is kept of the hull came out when it was followed anew -/
def HuOk (fol there held n : Int) (g : Nat → Int) (kx : Nat → Int64) (tw : Nat → Int) : Prop := (fol = 0 ∨ fol = 1) ∧ (fol = 1 → ∃ (m : Nat) (a b s : Int) (d e h g1 nu : Nat → Int) (f : Nat → Int64), 3 ≤ m ∧ m ≤ 5 ∧ Tb g1 ∧ f_X0_follow 0 a b s d e f h m g1 = some (1, there, held, n, g, nu, kx, tw))
def Rel (x : Nat → Int) (X : Nat → Nat → Int) (kx : Nat → Int64) (it : Nat → Nat → Int64) (F : Nat → Int) (B : Nat → Nat → Int) (cl bt : Nat → Int64) : Prop :=
  RSet (x 1) (X 0) (X 1) (X 2) (x 3) (X 3) (x 5) (X 4) (x 7) (X 5) (F 0) (B 1) (B 2) (B 3) (F 4) (B 5) (B 6) (F 7) (B 8) (B 9) (F 10) (B 11) (B 12) (B 13) ∧
  (x 2 = 4 ∧ x 4 = 8 ∧ x 6 = 8 ∧ x 9 = 4 ∧ x 11 = 8 ∧ x 13 = 8) ∧
  RImg (x 0) (x 8) (X 6) (X 7) (X 8) (x 10) (X 9) (x 12) (X 10) (x 14) (X 11) (F 33) (B 34) ∧
  SpOk (x 16) (x 17) (x 18) (X 13) (X 14) (X 15) ∧
  HuOk (x 19) (x 20) (x 21) (x 22) (X 16) kx (X 18) ∧
  RText (x 23) (X 19) (F 15) (B 14) ∧
  RTape (X 21) (X 22) it (B 16) (B 17) cl
