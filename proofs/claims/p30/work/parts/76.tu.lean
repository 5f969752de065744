/-! a turn of a simulation -/
def tN (S : Nat → Nat) : Nat := if S 0 = 0 then 1 else S 0
def turnS (S : Nat → Nat) (p : Nat) : Nat → Nat :=
  if p % 16 = 0 then (if S 0 < 10 then townS S else S)
  else if p % 16 ≤ 4 then (if canJ S (nI (p / 16 % tN S)) (nI (p / 256 % tN S)) (nI (1 + p / 4096 % 60)) = true then joinS S (nI (p / 16 % tN S)) (nI (p / 256 % tN S)) (nI (1 + p / 4096 % 60)) else S)
  else if p % 16 = 5 then cutS S (nI (p / 16 % tN S)) (nI (p / 256 % tN S))
  else if p / 16 % tN S < S 0 then (if p % 16 ≤ 12 then noteS S (p / 16 % tN S) (p / 64 % 6) (p / 512 % 1000) 1 else noteS S (p / 16 % tN S) (p / 64 % 6) (p / 512 % 200) 0) else S
theorem OK_turnS {S : Nat → Nat} (ok : OK S) (p : Nat) : OK (turnS S p) := by
  unfold turnS
  split
  · split
    · rename_i h; exact OK_townS ok h
    · exact ok
  · split
    · split
      · rename_i h; exact OK_joinS ok h
      · exact ok
    · split
      · exact OK_cutS ok _ _
      · split
        · rename_i h
          have m1 := Nat.mod_lt (p / 64) (show 0 < 6 by omega)
          have m2 := Nat.mod_lt (p / 512) (show 0 < 1000 by omega)
          have m3 := Nat.mod_lt (p / 512) (show 0 < 200 by omega)
          split
          · exact OK_noteS ok h m1 m2 _
          · exact OK_noteS ok h m1 (by omega) _
        · exact ok
