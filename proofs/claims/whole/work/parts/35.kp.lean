/-- what keep leaves on the shelf: the old laying, none, or a new one and its cell -/
def kp (old : Option Nat) (x2 x3 x4 r : Int32) (u : Option Nat × va_W) : Prop := (r ≠ 0 ∧ u = (old, [])) ∨ (r = 0 ∧ x2 = 0 ∧ u = (none, [])) ∨ (r = 0 ∧ ¬ x2 = 0 ∧ ∃ q : Nat, u = (some q, [(q, .inr (1, [.int x3, .int x4]))]))
