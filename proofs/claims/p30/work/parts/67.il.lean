/-! if a road were laid -/
theorem x3_begin {rc C : Nat → Int32} {S : Nat → Nat} (hC : AgC C S) {post : (Nat → Int32) → Prop} (h : ∀ m, AgC m S → post m) : P_X3_begin rc C post := by
  unfold P_X3_begin
  exact s1_takeOver (fun w hw => h w (AgC_eq hC hw))
