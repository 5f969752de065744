/-! inventions counted, both sides -/
def feN : Option (Nat × Nat × Nat × Nat × Nat) → Nat
  | none => 0
  | some (L, _, _, _, _) => L
theorem FL_le {S : Nat → Nat} {x : Nat} : feN (FL S x) ≤ 10 := by
  unfold FL
  split
  · cases hq : fl (EX S x) (2 ^ S 0) with
    | none => exact Nat.zero_le _
    | some q => obtain ⟨L, o, A, B, c⟩ := q; exact fl_le hq
  · exact Nat.zero_le _
theorem feI_n {q : Option (Nat × Nat × Nat × Nat × Nat)} (h : q ≠ none) : feI q = nI (feN q) := by
  cases q with
  | none => exact absurd rfl h
  | some w => obtain ⟨L, o, A, B, c⟩ := w; rfl
theorem feI_m1 {S : Nat → Nat} {x : Nat} : feI (FL S x) = -1 ↔ FL S x = none := by
  constructor
  · intro h
    apply Classical.byContradiction
    intro ne
    rw [feI_n ne] at h
    have := congrArg Int32.toInt h
    have l := FL_le (S := S) (x := x)
    rw [nI_toInt (by omega), show (-1 : Int32).toInt = -1 from rfl] at this; omega
  · intro h; rw [h]; rfl
noncomputable def allN (S : Nat → Nat) : Nat := sumTo 6 (fun x => feN (FL S x))
noncomputable def trN (S : Nat → Nat) : Nat := sumTo 6 (fun x => b1 (decide (0 < feN (FL S x))))
theorem allN_le (S : Nat → Nat) : allN S ≤ 60 := sumTo_le (n := 6) (c := 10) (fun _ _ => FL_le)
theorem c_allInventions {C : Nat → Int32} {S : Nat → Nat} (hC : AgC C S) (ok : OK S) {b : BH} {post : Int32 → BH → Prop} (h : ∀ b', post (nI (allN S)) b') : P_X0_allInventions b C post := by
  unfold P_X0_allInventions
  have key := forN (fun n i => ∀ b', P_X0_allInventions_l4 b C post n b' (nI (sumTo i (fun x => feN (FL S x)))) (nI i)) 6 ?_ ?_ 0 (by omega)
  · obtain ⟨n, hn⟩ := key; exact ⟨n, hn b⟩
  · intro n b'
    show P_X0_allInventions_b4 _ _ _ _ _ _ _
    unfold P_X0_allInventions_b4
    exact brT (nI_le (a := 6) (Nat.le_refl _) (by omega)) (h b')
  · intro n i hi hv b'
    show P_X0_allInventions_b4 _ _ _ _ _ _ _
    unfold P_X0_allInventions_b4
    refine brF (nI_ge (b := 6) hi (by omega)) (c_study hC ok hi (fun b2 _ => ?_))
    have l := FL_le (S := S) (x := i)
    have e : (if feI (FL S i) < (0 : Int32) then (0 : Int32) else feI (FL S i)) = nI (feN (FL S i)) := by
      cases hq : FL S i with
      | none => rfl
      | some v =>
        rw [← hq, feI_n (by rw [hq]; exact fun z => nomatch z), if_neg (nI_pos (by omega))]
    rw [e]
    exact fa2 (fa1 (hv b2))
theorem c_inventedTraits {C : Nat → Int32} {S : Nat → Nat} (hC : AgC C S) (ok : OK S) {b : BH} {post : Int32 → BH → Prop} (h : ∀ b', post (nI (trN S)) b') : P_X0_inventedTraits b C post := by
  unfold P_X0_inventedTraits
  let f : Nat → Nat := fun x => b1 (decide (0 < feN (FL S x)))
  have key := forN (fun n i => ∀ b', P_X0_inventedTraits_l4 b C post n b' (nI (sumTo i f)) (nI i)) 6 ?_ ?_ 0 (by omega)
  · obtain ⟨n, hn⟩ := key; exact ⟨n, hn b⟩
  · intro n b'
    show P_X0_inventedTraits_b4 _ _ _ _ _ _ _
    unfold P_X0_inventedTraits_b4
    exact brT (nI_le (a := 6) (Nat.le_refl _) (by omega)) (h b')
  · intro n i hi hv b'
    show P_X0_inventedTraits_b4 _ _ _ _ _ _ _
    unfold P_X0_inventedTraits_b4 P_X0_inventedTraits_b22
    refine brF (nI_ge (b := 6) hi (by omega)) (c_study hC ok hi (fun b2 _ => ?_))
    have l := FL_le (S := S) (x := i)
    have z0 : feN (FL S i) = 0 → P_X0_inventedTraits_l4 b C post n b2 (nI (sumTo i f)) (nI (i + 1)) := fun z => by
      have := hv b2
      rw [show sumTo (i + 1) f = sumTo i f by show _ + b1 (decide (0 < feN (FL S i))) = _; rw [z]; rfl] at this; exact this
    have z1 : 0 < feN (FL S i) → P_X0_inventedTraits_l4 b C post n b2 (nI (sumTo i f + 1)) (nI (i + 1)) := fun z => by
      have := hv b2
      rw [show sumTo (i + 1) f = sumTo i f + 1 by show _ + b1 (decide (0 < feN (FL S i))) = _; rw [decide_eq_true z]; rfl] at this; exact this
    cases hq : FL S i with
    | none => exact brT (by decide) (fa1 (z0 (by rw [hq]; rfl)))
    | some v =>
      rw [← hq, feI_n (by rw [hq]; exact fun z => nomatch z)]
      exact brN0 (by omega) (fun z => fa1 (z0 z)) (fun z => fa1 (fa1 (z1 z)))
