/-! the whole text read -/
def readF (t : Nat → Nat) (n : Nat) : Nat → Nat → (Nat → Nat) → Nat → Option Nat × (Nat → Nat) × Nat
  | 0, p, S, o => (some p, S, o)
  | f + 1, p, S, o => match PR t n p with
    | (q, none) => (some q, S, o)
    | (q, some x) => if ch t n q = 59 then readF t n f (q + 1) (repS S x) (o + repO S x) else ((if n ≤ q then none else some q), repS S x, o + repO S x)
theorem readF_none {t : Nat → Nat} {n f p q : Nat} {S : Nat → Nat} {o : Nat} (h : PR t n p = (q, none)) : readF t n (f + 1) p S o = (some q, S, o) := by
  show (match PR t n p with | (q, none) => (some q, S, o) | (q, some x) => _) = _; rw [h]
theorem readF_some {t : Nat → Nat} {n f p q : Nat} {S : Nat → Nat} {o : Nat} {x : Nat × Nat × Nat × Nat} (h : PR t n p = (q, some x)) : readF t n (f + 1) p S o = if ch t n q = 59 then readF t n f (q + 1) (repS S x) (o + repO S x) else ((if n ≤ q then none else some q), repS S x, o + repO S x) := by
  show (match PR t n p with | (q, none) => (some q, S, o) | (q, some x) => _) = _; rw [h]
theorem OK_readF {t : Nat → Nat} {n : Nat} : ∀ (f p : Nat) (S : Nat → Nat) (o : Nat), OK S → OK (readF t n f p S o).2.1
  | 0, _, _, _, ok => ok
  | f + 1, p, S, o, ok => by
    generalize h : PR t n p = yy
    obtain ⟨q, b⟩ := yy
    cases b with
    | none => rw [readF_none h]; exact ok
    | some x =>
      rw [readF_some h]
      have ok' := OK_repS ok h
      split
      · exact OK_readF f (q + 1) _ _ ok'
      · exact ok'
section
variable {t : Nat → Nat} {n : Nat}
theorem fe_at {p s : Nat} (hp : p < n) : feR t n (n - p) s = match aw s (t p) with | none => some p | some s' => feR t n (n - (p + 1)) s' := by
  obtain ⟨k, hk⟩ : ∃ k, n - p = k + 1 := ⟨n - p - 1, by omega⟩
  rw [hk]
  show (match aw s (t (n - (k + 1))) with | none => some (n - (k + 1)) | some s' => feR t n k s') = _
  rw [show n - (k + 1) = p by omega, show n - (p + 1) = k by omega]
theorem fe_go {p s s' : Nat} (hp : p < n) (h : aw s (t p) = some s') : feR t n (n - p) s = feR t n (n - (p + 1)) s' := by rw [fe_at hp, h]
theorem fe_end {s : Nat} : feR t n (n - n) s = if 5 ≤ s then none else some n := by rw [Nat.sub_self]; rfl
theorem fe_bad {p s : Nat} (hp : p ≤ n) (hs : s < 5) (h : p < n → aw s (t p) = none) : feR t n (n - p) s = some p := by
  by_cases e : p < n
  · rw [fe_at e, h e]
  · have : p = n := by omega
    subst this
    rw [fe_end, if_neg (by omega)]
theorem fe_year {p : Nat} (hp : p ≤ n) : (∀ q, yearAt t n p = (q, none) → feR t n (n - p) 4 = some q) ∧ (∀ q y, yearAt t n p = (q, some y) → ∃ s', 5 ≤ s' ∧ s' < 8 ∧ feR t n (n - p) 4 = feR t n (n - q) s' ∧ (s' = 7 ∨ dg (ch t n q) = false)) := by
  have E : ∀ i, i < n → ch t n i = t i := fun i hi => if_pos hi
  unfold yearAt
  cases e0 : dg (ch t n p) with
  | false =>
    rw [if_pos rfl]
    refine ⟨fun q h => ?_, fun q y h => (by cases h)⟩
    cases h
    refine fe_bad hp (by omega) (fun w => ?_)
    rw [E p w] at e0
    have := dgF e0
    unfold aw; rw [if_neg (by decide), if_neg (by decide), if_neg (by decide), if_neg (by decide), if_pos rfl, if_neg (by omega), if_neg (by rw [e0]; decide)]
  | true =>
    rw [if_neg (by decide)]
    have d0 := dgT e0
    have n0 := ch_in (t := t) (n := n) (i := p) (by omega)
    by_cases z : ch t n p = 48
    · rw [if_pos z]
      refine ⟨fun q h => (by cases h), fun q y h => ?_⟩
      cases h
      refine ⟨7, by omega, by omega, fe_go n0.1 ?_, Or.inl rfl⟩
      unfold aw; rw [if_neg (by decide), if_neg (by decide), if_neg (by decide), if_neg (by decide), if_pos rfl, if_pos (by omega)]
    rw [if_neg z]
    have a0 : aw 4 (t p) = some 5 := by
      unfold aw; rw [if_neg (by decide), if_neg (by decide), if_neg (by decide), if_neg (by decide), if_pos rfl, if_neg (by omega), ← n0.2, if_pos e0]
    cases e1 : dg (ch t n (p + 1)) with
    | false =>
      rw [if_pos rfl]
      refine ⟨fun q h => (by cases h), fun q y h => ?_⟩
      cases h
      exact ⟨5, by omega, by omega, fe_go n0.1 a0, Or.inr e1⟩
    | true =>
      rw [if_neg (by decide)]
      have d1 := dgT e1
      have n1 := ch_in (t := t) (n := n) (i := p + 1) (by omega)
      have a1 : aw 5 (t (p + 1)) = some 6 := by
        unfold aw; rw [if_neg (by decide), if_neg (by decide), if_neg (by decide), if_neg (by decide), if_neg (by decide), if_pos rfl, ← n1.2, if_pos e1]
      cases e2 : dg (ch t n (p + 2)) with
      | false =>
        rw [if_pos rfl]
        refine ⟨fun q h => (by cases h), fun q y h => ?_⟩
        cases h
        exact ⟨6, by omega, by omega, by rw [fe_go n0.1 a0, fe_go n1.1 a1], Or.inr e2⟩
      | true =>
        rw [if_neg (by decide)]
        have d2 := dgT e2
        have n2 := ch_in (t := t) (n := n) (i := p + 2) (by omega)
        have a2 : aw 6 (t (p + 2)) = some 7 := by
          unfold aw; rw [if_neg (by decide), if_neg (by decide), if_neg (by decide), if_neg (by decide), if_neg (by decide), if_neg (by decide), if_pos rfl, ← n2.2, if_pos e2]
        refine ⟨fun q h => (by cases h), fun q y h => ?_⟩
        cases h
        exact ⟨7, by omega, by omega, by rw [fe_go n0.1 a0, fe_go n1.1 a1, fe_go n2.1 a2], Or.inl rfl⟩
theorem fe_tail {q s' : Nat} (hq : q ≤ n) (h5 : 5 ≤ s') (h8 : s' < 8) (hs : s' = 7 ∨ dg (ch t n q) = false) : feR t n (n - q) s' = if ch t n q = 59 then feR t n (n - (q + 1)) 0 else if n ≤ q then none else some q := by
  by_cases e : q < n
  · have E : ch t n q = t q := if_pos e
    rw [if_neg (show ¬ n ≤ q by omega), fe_at e]
    rw [E] at hs ⊢
    by_cases z : t q = 59
    · rw [if_pos z, z, show aw s' 59 = some 0 by
        have hd : dg 59 = false := by decide
        rcases (show s' = 5 ∨ s' = 6 ∨ s' = 7 by omega) with rfl | rfl | rfl <;> decide]
    · rw [if_neg z, show aw s' (t q) = none by
        rcases (show s' = 5 ∨ s' = 6 ∨ s' = 7 by omega) with rfl | rfl | rfl
        · unfold aw; rw [if_neg (by decide), if_neg (by decide), if_neg (by decide), if_neg (by decide), if_neg (by decide), if_pos rfl, if_neg (by rw [hs.resolve_left (by decide)]; decide), if_neg z]
        · unfold aw; rw [if_neg (by decide), if_neg (by decide), if_neg (by decide), if_neg (by decide), if_neg (by decide), if_neg (by decide), if_pos rfl, if_neg (by rw [hs.resolve_left (by decide)]; decide), if_neg z]
        · unfold aw; rw [if_neg (by decide), if_neg (by decide), if_neg (by decide), if_neg (by decide), if_neg (by decide), if_neg (by decide), if_neg (by decide), if_neg z]]
  · have e' : q = n := by omega
    subst e'
    rw [fe_end, if_pos h5, if_neg (by unfold ch; rw [if_neg (by omega)]; omega), if_pos (Nat.le_refl _)]
theorem fe_PR {p : Nat} (hp : p ≤ n) : (∀ q, PR t n p = (q, none) → feR t n (n - p) 0 = some q) ∧ (∀ q x, PR t n p = (q, some x) → feR t n (n - p) 0 = if ch t n q = 59 then feR t n (n - (q + 1)) 0 else if n ≤ q then none else some q) := by
  have E : ∀ i, i < n → ch t n i = t i := fun i hi => if_pos hi
  unfold PR
  by_cases e0 : dg (ch t n p) = false
  · rw [if_pos e0]
    refine ⟨fun q h => ?_, fun q y h => (by cases h)⟩
    cases h
    refine fe_bad hp (by omega) (fun w => ?_)
    rw [E p w] at e0
    unfold aw; rw [if_pos rfl, if_neg (by rw [e0]; decide)]
  rw [if_neg e0]
  have d0 := dgT (dgn e0)
  have n0 := ch_in (t := t) (n := n) (i := p) (by omega)
  have a0 : aw 0 (t p) = some 1 := by unfold aw; rw [if_pos rfl, ← n0.2, if_pos (dgn e0)]
  rw [fe_go n0.1 a0]
  by_cases e1 : ¬ (ch t n (p + 1) = 43 ∨ ch t n (p + 1) = 45)
  · rw [if_pos e1]
    refine ⟨fun q h => ?_, fun q y h => (by cases h)⟩
    cases h
    refine fe_bad n0.1 (by omega) (fun w => ?_)
    rw [E _ w] at e1
    unfold aw; rw [if_neg (by decide), if_pos rfl, if_neg e1]
  rw [if_neg e1]
  have e1' : ch t n (p + 1) = 43 ∨ ch t n (p + 1) = 45 := Decidable.not_not.mp e1
  have n1 := ch_in (t := t) (n := n) (i := p + 1) (by omega)
  have a1 : aw 1 (t (p + 1)) = some 2 := by unfold aw; rw [if_neg (by decide), if_pos rfl, ← n1.2, if_pos e1']
  rw [fe_go n1.1 a1]
  by_cases e2 : ¬ (48 ≤ ch t n (p + 2) ∧ ch t n (p + 2) ≤ 53)
  · rw [if_pos e2]
    refine ⟨fun q h => ?_, fun q y h => (by cases h)⟩
    cases h
    refine fe_bad n1.1 (by omega) (fun w => ?_)
    rw [E _ w] at e2
    unfold aw; rw [if_neg (by decide), if_neg (by decide), if_pos rfl, if_neg e2]
  rw [if_neg e2]
  have e2' := Decidable.not_not.mp e2
  have n2 := ch_in (t := t) (n := n) (i := p + 2) (by omega)
  have a2 : aw 2 (t (p + 1 + 1)) = some 3 := by unfold aw; rw [if_neg (by decide), if_neg (by decide), if_pos rfl, ← n2.2, if_pos e2']
  rw [fe_go n2.1 a2]
  by_cases e3 : ¬ ch t n (p + 3) = 58
  · rw [if_pos e3]
    refine ⟨fun q h => ?_, fun q y h => (by cases h)⟩
    cases h
    refine fe_bad n2.1 (by omega) (fun w => ?_)
    rw [E _ w] at e3
    unfold aw; rw [if_neg (by decide), if_neg (by decide), if_neg (by decide), if_pos rfl, if_neg e3]
  rw [if_neg e3]
  have e3' := Decidable.not_not.mp e3
  have n3 := ch_in (t := t) (n := n) (i := p + 3) (by omega)
  have a3 : aw 3 (t (p + 1 + 1 + 1)) = some 4 := by unfold aw; rw [if_neg (by decide), if_neg (by decide), if_neg (by decide), if_pos rfl, ← n3.2, if_pos e3']
  rw [fe_go n3.1 a3]
  have Y := fe_year (t := t) (n := n) (p := p + 4) n3.1
  generalize hy : yearAt t n (p + 4) = yy
  obtain ⟨q4, b4⟩ := yy
  cases b4 with
  | none =>
    refine ⟨fun q h => ?_, fun q y h => (by cases h)⟩
    cases h
    exact Y.1 _ hy
  | some y =>
    refine ⟨fun q h => (by cases h), fun q x h => ?_⟩
    cases h
    obtain ⟨s', h5, h8, hf, hs⟩ := Y.2 _ _ hy
    have hb := yearAt_lt hy
    rw [show p + 1 + 1 + 1 + 1 = p + 4 from rfl, hf]
    exact fe_tail hb.2.2 h5 h8 hs
theorem fe_readF : ∀ (f p : Nat) (S : Nat → Nat) (o : Nat), p ≤ n → n - p < f → feR t n (n - p) 0 = (readF t n f p S o).1
  | 0, p, S, o, _, hf => by omega
  | f + 1, p, S, o, hp, hf => by
    have P := fe_PR (t := t) hp
    generalize h : PR t n p = yy
    obtain ⟨q, b⟩ := yy
    cases b with
    | none => rw [readF_none h]; exact P.1 q h
    | some x =>
      have bb := PR_out h
      rw [readF_some h, P.2 q x h]
      by_cases z : ch t n q = 59
      · have nq := ch_in (t := t) (n := n) (i := q) (by omega)
        rw [if_pos z, if_pos z]
        exact fe_readF f (q + 1) _ _ (by omega) (by omega)
      · rw [if_neg z, if_neg z]
end
