/-! the best road, the model's side -/
theorem whyL_c {S : Nat → Nat} {x y len : Int32} : whyL S x y len = 0 ↔ canJ S x y len = true := by
  constructor
  · intro h
    cases z : canJ S x y len with
    | true => rfl
    | false =>
      unfold whyL at h
      split at h
      · split at h
        · exact absurd h (by decide)
        · rw [if_neg (by rw [z]; decide)] at h; exact absurd h (by decide)
      · exact absurd h (by decide)
  · exact whyL_0
