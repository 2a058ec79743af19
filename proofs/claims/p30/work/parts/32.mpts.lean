/-! the points of the model: its looks -/
def MS (o : OM) (S : Int → Int) : Prop := ∀ a : Int, 0 ≤ a → a < 244 → rd o 20 0 (I a).toNatClampNeg = I (S a)
def pr (S : Int → Int) (g k : Nat) : Int := S (38 * (g : Int) + (8 + 3 * (k : Int)))
def pd (S : Int → Int) (g k : Nat) : Int := S (38 * (g : Int) + (8 + 3 * (k : Int)) + 1)
def py (S : Int → Int) (g k : Nat) : Int := S (38 * (g : Int) + (8 + 3 * (k : Int)) + 2)
section
variable {o : OM} {S : Int → Int} {g n : Nat}
end
