/-! acts about histories -/
noncomputable def aboutN (S : Nat → Nat) (k : Nat) : Nat := if k = 0 then S 0 else if k = 1 then cnt S else if k = 2 then repN S else if k = 3 then conN S else if k = 4 then trN S else allN S
theorem eq6 {x : Int32} : (isT 6 x = false ∧ ¬ x = 0 ∧ ¬ x = 1 ∧ ¬ x = 2 ∧ ¬ x = 3 ∧ ¬ x = 4 ∧ ¬ x = 5) ∨ (isT 6 x = true ∧ (x = 0 ∨ x = 1 ∨ x = 2 ∨ x = 3 ∨ x = 4 ∨ x = 5)) := by
  cases h : isT 6 x with
  | true =>
    obtain ⟨k, hk, rfl⟩ := isT_ex (by omega) h
    refine Or.inr ⟨rfl, ?_⟩
    rcases (show k = 0 ∨ k = 1 ∨ k = 2 ∨ k = 3 ∨ k = 4 ∨ k = 5 by omega) with rfl | rfl | rfl | rfl | rfl | rfl <;> decide
  | false =>
    have : ∀ k, k < 6 → ¬ x = nI k := fun k hk e => by
      rw [e, isT_in (by omega) hk] at h; exact nomatch h
    exact Or.inl ⟨rfl, this 0 (by omega), this 1 (by omega), this 2 (by omega), this 3 (by omega), this 4 (by omega), this 5 (by omega)⟩
def ivI (q : Option (Nat × Nat × Nat × Nat × Nat)) (kind : Int32) : Int32 := match q with
  | none => -1
  | some (_, o, A, B, _) => if kind = 0 then nI o else if kind = 1 then nI A else nI B
def chI : Option (Nat × Nat × Nat × Nat × Nat) → Int32
  | none => -1
  | some (_, _, _, _, c) => nI c
theorem HS_q {S : Nat → Nat} {x : Nat} {b : BH} (h : HS S x b) : FLr (FL S x) b.2.2.2.1 b.2.2.2.2.1 b.2.2.2.2.2.1 b.2.2.2.2.2.2.1 b.2.2.2.2.2.2.2.1 := by
  obtain ⟨tw, ro, kk, fe, og, al, so, ls, fr, to, ln, ea, la, ye, xp, tg⟩ := b
  exact h.2.2.2.2.2.2.1
theorem isT3 {x : Int32} : (isT 3 x = true ↔ ¬ x < 0 ∧ x ≤ (2 : Int32)) := by
  rw [i_lt, i_le, show (0 : Int32).toInt = 0 from rfl, show (2 : Int32).toInt = 2 from rfl]
  constructor
  · intro h; have := of_decide_eq_true h; omega
  · intro h; exact decide_eq_true (by omega)
