/-! inventions counted, both sides -/
def feN : Option (Nat × Nat × Nat × Nat × Nat) → Nat
  | none => 0
  | some (L, _, _, _, _) => L
theorem FL_le {S : Nat → Nat} {x : Nat} : feN (FL S x) ≤ 10 := by
  unfold FL
  split
  · cases hq : fl (EX S x) (2 ^ S 0) with
    | none => exact Nat.zero_le _
    | some q => obtain ⟨L, o, A, B, c⟩ := q; exact fl_le hq
  · exact Nat.zero_le _
theorem feI_n {q : Option (Nat × Nat × Nat × Nat × Nat)} (h : q ≠ none) : feI q = nI (feN q) := by
  cases q with
  | none => exact absurd rfl h
  | some w => obtain ⟨L, o, A, B, c⟩ := w; rfl
theorem feI_m1 {S : Nat → Nat} {x : Nat} : feI (FL S x) = -1 ↔ FL S x = none := by
  constructor
  · intro h
    apply Classical.byContradiction
    intro ne
    rw [feI_n ne] at h
    have := congrArg Int32.toInt h
    have l := FL_le (S := S) (x := x)
    rw [nI_toInt (by omega), show (-1 : Int32).toInt = -1 from rfl] at this; omega
  · intro h; rw [h]; rfl
theorem BM1 {q : Option (Nat × Nat × Nat × Nat × Nat)} {w : Nat → Int32} : (BMof q w).1 = feI q := by
  cases q with
  | none => rfl
  | some v => obtain ⟨L, o, A, B, c⟩ := v; rfl
noncomputable def allN (S : Nat → Nat) : Nat := sumTo 6 (fun x => feN (FL S x))
noncomputable def trN (S : Nat → Nat) : Nat := sumTo 6 (fun x => b1 (decide (0 < feN (FL S x))))
theorem allN_le (S : Nat → Nat) : allN S ≤ 60 := sumTo_le (n := 6) (c := 10) (fun _ _ => FL_le)
theorem c_allInventions {C : Nat → Int32} {S : Nat → Nat} (hC : AgC C S) (ok : OK S) {b : BH} {post : Int32 → BH → Prop} (h : ∀ b', post (nI (allN S)) b') : P_X0_allInventions b C post := by
  unfold P_X0_allInventions
  have key := forN (fun n i => ∀ b', P_X0_allInventions_l4 b C post n b' (nI (sumTo i (fun x => feN (FL S x)))) (nI i)) 6 ?_ ?_ 0 (by omega)
  · obtain ⟨n, hn⟩ := key; exact ⟨n, hn b⟩
  · intro n b'
    show P_X0_allInventions_b4 _ _ _ _ _ _ _
    unfold P_X0_allInventions_b4
    exact brT (nI_le (a := 6) (Nat.le_refl _) (by omega)) (h b')
  · intro n i hi hv b'
    show P_X0_allInventions_b4 _ _ _ _ _ _ _
    unfold P_X0_allInventions_b4
    refine brF (nI_ge (b := 6) hi (by omega)) (c_study hC ok hi (fun b2 _ => ?_))
    have l := FL_le (S := S) (x := i)
    have e : (if feI (FL S i) < (0 : Int32) then (0 : Int32) else feI (FL S i)) = nI (feN (FL S i)) := by
      cases hq : FL S i with
      | none => rfl
      | some v =>
        rw [← hq, feI_n (by rw [hq]; exact fun z => nomatch z), if_neg (nI_pos (by omega))]
    rw [e]
    exact fa2 (fa1 (hv b2))
theorem c_inventedTraits {C : Nat → Int32} {S : Nat → Nat} (hC : AgC C S) (ok : OK S) {b : BH} {post : Int32 → BH → Prop} (h : ∀ b', post (nI (trN S)) b') : P_X0_inventedTraits b C post := by
  unfold P_X0_inventedTraits
  let f : Nat → Nat := fun x => b1 (decide (0 < feN (FL S x)))
  have key := forN (fun n i => ∀ b', P_X0_inventedTraits_l4 b C post n b' (nI (sumTo i f)) (nI i)) 6 ?_ ?_ 0 (by omega)
  · obtain ⟨n, hn⟩ := key; exact ⟨n, hn b⟩
  · intro n b'
    show P_X0_inventedTraits_b4 _ _ _ _ _ _ _
    unfold P_X0_inventedTraits_b4
    exact brT (nI_le (a := 6) (Nat.le_refl _) (by omega)) (h b')
  · intro n i hi hv b'
    show P_X0_inventedTraits_b4 _ _ _ _ _ _ _
    unfold P_X0_inventedTraits_b4 P_X0_inventedTraits_b22
    refine brF (nI_ge (b := 6) hi (by omega)) (c_study hC ok hi (fun b2 _ => ?_))
    have l := FL_le (S := S) (x := i)
    have z0 : feN (FL S i) = 0 → P_X0_inventedTraits_l4 b C post n b2 (nI (sumTo i f)) (nI (i + 1)) := fun z => by
      have := hv b2
      rw [show sumTo (i + 1) f = sumTo i f by show _ + b1 (decide (0 < feN (FL S i))) = _; rw [z]; rfl] at this; exact this
    have z1 : 0 < feN (FL S i) → P_X0_inventedTraits_l4 b C post n b2 (nI (sumTo i f + 1)) (nI (i + 1)) := fun z => by
      have := hv b2
      rw [show sumTo (i + 1) f = sumTo i f + 1 by show _ + b1 (decide (0 < feN (FL S i))) = _; rw [decide_eq_true z]; rfl] at this; exact this
    cases hq : FL S i with
    | none => exact brT (by decide) (fa1 (z0 (by rw [hq]; rfl)))
    | some v =>
      rw [← hq, feI_n (by rw [hq]; exact fun z => nomatch z)]
      exact brN0 (by omega) (fun z => fa1 (z0 z)) (fun z => fa1 (fa1 (z1 z)))
theorem x6_inventionsInAll {r : Nat → Int32} {S : Nat → Nat} (hM : AgM r S) (ok : OK S) {b : BM} {post : Int32 → BM → Prop} (h : ∀ b', post (nI (allN S)) b') : P_X6_inventionsInAll 221 b r post := by
  unfold P_X6_inventionsInAll
  have key := forN (fun n i => ∀ b', P_X6_inventionsInAll_l4 221 b r post n b' (nI (sumTo i (fun x => feN (FL S x)))) (nI i)) 6 ?_ ?_ 0 (by omega)
  · obtain ⟨n, hn⟩ := key; exact ⟨n, hn b⟩
  · intro n b'
    show P_X6_inventionsInAll_b4 _ _ _ _ _ _ _ _
    unfold P_X6_inventionsInAll_b4
    exact brT (nI_le (a := 6) (Nat.le_refl _) (by omega)) (h b')
  · intro n i hi hv b'
    show P_X6_inventionsInAll_b4 _ _ _ _ _ _ _ _
    unfold P_X6_inventionsInAll_b4 P_X6_inventionsInAll_b33
    refine brF (nI_ge (b := 6) hi (by omega)) (x6_findLeast hM ok hi (fun w => ?_))
    rw [BM1]
    have hv' := hv (BMof (FL S i) w)
    have e : sumTo (i + 1) (fun x => feN (FL S x)) = sumTo i (fun x => feN (FL S x)) + feN (FL S i) := rfl
    rw [e] at hv'
    refine br (fun q => ?_) (fun q => ?_)
    · rw [feI_m1.mp q] at hv' ⊢; exact fa2 (b := 0) (fa1 hv')
    · rw [feI_n (fun z => q (feI_m1.mpr z))]; exact fa2 (fa1 hv')
theorem x6_traitsInvented {r : Nat → Int32} {S : Nat → Nat} (hM : AgM r S) (ok : OK S) {b : BM} {post : Int32 → BM → Prop} (h : ∀ b', post (nI (trN S)) b') : P_X6_traitsInvented b r post := by
  unfold P_X6_traitsInvented
  let f : Nat → Nat := fun x => b1 (decide (0 < feN (FL S x)))
  have key := forN (fun n i => ∀ b', P_X6_traitsInvented_l4 b r post n b' (nI (sumTo i f)) (nI i)) 6 ?_ ?_ 0 (by omega)
  · obtain ⟨n, hn⟩ := key; exact ⟨n, hn b⟩
  · intro n b'
    show P_X6_traitsInvented_b4 _ _ _ _ _ _ _
    unfold P_X6_traitsInvented_b4
    exact brT (nI_le (a := 6) (Nat.le_refl _) (by omega)) (h b')
  · intro n i hi hv b'
    show P_X6_traitsInvented_b4 _ _ _ _ _ _ _
    unfold P_X6_traitsInvented_b4 P_X6_traitsInvented_b32
    refine brF (nI_ge (b := 6) hi (by omega)) (x6_findLeast hM ok hi (fun w => ?_))
    rw [BM1]
    have hv' := hv (BMof (FL S i) w)
    have l := FL_le (S := S) (x := i)
    have z0 : feN (FL S i) = 0 → P_X6_traitsInvented_l4 b r post n (BMof (FL S i) w) (nI (sumTo i f + 0)) (nI (i + 1)) := fun z => by
      rw [show sumTo (i + 1) f = sumTo i f + 0 by show _ + b1 (decide (0 < feN (FL S i))) = _; rw [z]; rfl] at hv'; exact hv'
    have z1 : 0 < feN (FL S i) → P_X6_traitsInvented_l4 b r post n (BMof (FL S i) w) (nI (sumTo i f + 1)) (nI (i + 1)) := fun z => by
      rw [show sumTo (i + 1) f = sumTo i f + 1 by show _ + b1 (decide (0 < feN (FL S i))) = _; rw [decide_eq_true z]; rfl] at hv'; exact hv'
    by_cases hq : FL S i = none
    · rw [hq] at z0 ⊢; exact brT (by decide) (fa2 (b := 0) (fa1 (z0 rfl)))
    · rw [feI_n hq]
      exact brN0 (by omega) (fun z => fa2 (b := 0) (fa1 (z0 z))) (fun z => fa2 (b := 1) (fa1 (z1 z)))
