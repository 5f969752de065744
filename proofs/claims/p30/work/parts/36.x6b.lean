/-! the model: its diary, what changes its land, what it answers -/
/-- the past: the states that stand, the oldest first -/
def pushN (n : Nat) : Nat := if n = 14 then 14 else n + 1
def pushP (n : Nat) (PS : Nat → Nat → Nat) (S : Nat → Nat) : Nat → Nat → Nat := if n = 14 then fun j => if j = 13 then S else PS (j + 1) else fun j => if j = n then S else PS j
theorem pushN_le {n : Nat} (h : n ≤ 14) : pushN n ≤ 14 := by unfold pushN; split <;> omega
theorem push_all {n : Nat} {PS : Nat → Nat → Nat} {S : Nat → Nat} {P : (Nat → Nat) → Prop} (h : ∀ j, j < n → P (PS j)) (hS : P S) : ∀ j, j < pushN n → P (pushP n PS S j) := by
  intro j hj
  unfold pushN at hj
  unfold pushP
  by_cases e : n = 14
  · rw [if_pos e] at hj
    rw [if_pos e]
    show P (if j = 13 then S else PS (j + 1))
    by_cases g : j = 13
    · rw [if_pos g]; exact hS
    · rw [if_neg g]; exact h _ (by omega)
  · rw [if_neg e] at hj
    rw [if_neg e]
    show P (if j = n then S else PS j)
    by_cases g : j = n
    · rw [if_pos g]; exact hS
    · rw [if_neg g]; exact h _ (by omega)
theorem f10 : ¬ ((1 : Int32) = 0) := by decide
