/-! the model: its plain acts -/
def bothT (S : Nat → Nat) (x y : Int32) : Bool := isT (S 0) x && isT (S 0) y
section
variable {o : Int32} {r diary : Nat → Int32} {S : Nat → Nat} {n : Nat} {PS : Nat → Nat → Nat}
end
