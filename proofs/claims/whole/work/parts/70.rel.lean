/-- the class's state (numbers x, rows X, keys kx, items it) and the reference's (numbers F, rows B, items cl, bt) tell the same -/
def Rel (x : Nat → Int) (X : Nat → Nat → Int) (kx : Nat → Int64) (it : Nat → Nat → Int64) (F : Nat → Int) (B : Nat → Nat → Int) (cl bt : Nat → Int64) : Prop := x = x ∧ X = X ∧ kx = kx ∧ it = it ∧ F = F ∧ B = B ∧ cl = cl ∧ bt = bt
