/-! the model spreads a trait -/
def AgY (w : Nat → Int32) (N : Nat) (y : Nat → Nat) : Prop := ∀ t, t < N → w t = nI (y t)
def bdS (S : Nat → Nat) (x t : Nat) : Nat := nt S t x
def MJ (N : Nat) (bd : Nat → Nat) (ln : Nat → Nat → Nat) (ex : Nat → Bool) (yi ys : Nat → Nat) (pr : Nat → Nat → Prop) (w : Nat → Int32) (x4 : Int32) : Prop :=
  ∃ y, AgY w N y ∧ (∀ t, t < N → y t ≤ yi t) ∧ (∀ z, Sub N bd ln ex yi z → ∀ t, t < N → z t ≤ y t) ∧
    ((x4 = 0 ∧ (∀ t, t < N → y t = ys t) ∧ ∀ a b, a < N → b < N → pr a b → 0 < ln a b → ex b = false → ys b ≤ max (ys a + ln a b) (bd b)) ∨ (x4 = 1 ∧ sumTo N y < sumTo N ys))
theorem sumTo_le2 {n : Nat} {f g : Nat → Nat} (h : ∀ j, j < n → f j ≤ g j) : sumTo n f ≤ sumTo n g := by
  induction n with
  | zero => exact Nat.le_refl _
  | succ n ih =>
    have h1 := ih (fun j hj => h j (by omega))
    have h2 := h n (by omega)
    show sumTo n f + f n ≤ sumTo n g + g n
    omega
