/-! the store: int rows by (instance, part), slots; the row of looks -/
abbrev dk_S : Type := Nat → Nat → Nat → Int32
def dk_row (σ : dk_S) (p q : Nat) (f : Nat → Int32) : dk_S := fun a b => if a = p ∧ b = q then f else σ a b
def dk_looks (k : Nat) : Int32 := ([0, 1, 2, 0, 2, 1, 1, 0, 2, 1, 2, 0, 2, 0, 1, 2, 1, 0] : List Int32).getD k 0
