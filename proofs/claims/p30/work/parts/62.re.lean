/-! the towns in their order -/
def firstF (P : Nat → Bool) : Nat → Option Nat
  | 0 => none
  | n + 1 => match firstF P n with
    | some i => some i
    | none => if P n = true then some n else none
theorem firstF_up {P : Nat → Bool} {n i : Nat} (h : firstF P n = some i) : ∀ m, n ≤ m → firstF P m = some i
  | 0, hm => by rw [show n = 0 by omega] at h; exact h
  | m + 1, hm => by
    by_cases e : n = m + 1
    · rw [← e]; exact h
    · show (match firstF P m with | some i => some i | none => _) = _
      rw [firstF_up h m (by omega)]
theorem firstF_hit {P : Nat → Bool} {i : Nat} (h : firstF P i = none) (h1 : P i = true) : firstF P (i + 1) = some i := by
  show (match firstF P i with | some i => some i | none => _) = _
  rw [h]; exact if_pos h1
theorem firstF_no {P : Nat → Bool} {i : Nat} (h : firstF P i = none) (h1 : P i = false) : firstF P (i + 1) = none := by
  show (match firstF P i with | some i => some i | none => _) = _
  rw [h]; exact if_neg (by rw [h1]; decide)
theorem firstF_congr {P Q : Nat → Bool} {n : Nat} (h : ∀ t, t < n → P t = Q t) : firstF P n = firstF Q n := by
  induction n with
  | zero => rfl
  | succ n ih =>
    show (match firstF P n with | some i => some i | none => if P n = true then some n else none) = (match firstF Q n with | some i => some i | none => if Q n = true then some n else none)
    rw [ih (fun t ht => h t (by omega)), h n (by omega)]
def befN (N : Nat) (Y : Nat → Nat) (t : Nat) : Nat := sumTo N (fun u => b1 (decide (Y u < Y t ∨ (Y u = Y t ∧ u < t))))
def ordP (N : Nat) (Y : Nat → Nat) (k : Nat) (t : Nat) : Bool := decide (Y t < 1000 ∧ befN N Y t = k)
theorem ordP_cap {N : Nat} {Y Z : Nat → Nat} (h : ∀ t, t < N → Z t = min (Y t) 1000) (k : Nat) : ∀ t, t < N → ordP N Y k t = ordP N Z k t := fun t ht => by
  have ht' := h t ht
  unfold ordP
  by_cases e : Y t < 1000
  · have : befN N Y t = befN N Z t := sumTo_congr (fun u hu => by
      have hu' := h u hu
      show b1 _ = b1 _
      have : (Y u < Y t ∨ (Y u = Y t ∧ u < t)) ↔ (Z u < Z t ∨ (Z u = Z t ∧ u < t)) := by omega
      rw [decide_eq_decide.mpr this])
    rw [this]
    exact decide_eq_decide.mpr (by omega)
  · rw [decide_eq_false (fun q => e q.1), decide_eq_false (fun q => by have := q.1; omega)]
theorem c_townsBefore {N t : Nat} {w : Nat → Int32} {Y : Nat → Nat} (hN : N ≤ 10) (ht : t < N) (hY : AgY w N Y) (hc : ∀ u, u < N → Y u ≤ 100000) {post : Int32 → Prop} (h : post (nI (befN N Y t))) : P_X0_townsBefore (nI N) w (nI t) post := by
  unfold P_X0_townsBefore
  let f : Nat → Nat := fun u => b1 (decide (Y u < Y t ∨ (Y u = Y t ∧ u < t)))
  refine forN (fun n i => P_X0_townsBefore_l4 (nI N) w (nI t) post n (nI (sumTo i f)) (nI i)) N ?_ ?_ 0 (Nat.zero_le _)
  · intro n
    show P_X0_townsBefore_b4 _ _ _ _ _ _ _
    unfold P_X0_townsBefore_b4
    exact brT (nI_le (Nat.le_refl _) (by omega)) h
  · intro n i hi hv
    show P_X0_townsBefore_b4 _ _ _ _ _ _ _
    have c1 := hc i hi
    have c2 := hc t ht
    have yes : (Y i < Y t ∨ (Y i = Y t ∧ i < t)) → P_X0_townsBefore_b47 (nI N) w (nI t) post (P_X0_townsBefore_l4 (nI N) w (nI t) post n) (nI (sumTo i f)) (nI i) := fun q => by
      unfold P_X0_townsBefore_b47 P_X0_townsBefore_b50
      rw [show sumTo (i + 1) f = sumTo i f + 1 by show _ + b1 (decide _) = _; rw [decide_eq_true q]; rfl] at hv
      exact fa1 (fa1 hv)
    have no : ¬ (Y i < Y t ∨ (Y i = Y t ∧ i < t)) → P_X0_townsBefore_b50 (nI N) w (nI t) post (P_X0_townsBefore_l4 (nI N) w (nI t) post n) (nI (sumTo i f)) (nI i) := fun q => by
      unfold P_X0_townsBefore_b50
      rw [show sumTo (i + 1) f = sumTo i f by show _ + b1 (decide _) = _; rw [decide_eq_false q]; rfl] at hv
      exact fa1 hv
    unfold P_X0_townsBefore_b4
    rw [nI_clamp (by omega), nI_clamp (by omega), hY i hi, hY t ht, i_ltN (by omega) (by omega), i_eqN (a := Y i) (b := Y t) (by omega) (by omega), i_leN (a := t) (b := i) (by omega) (by omega)]
    have iN : vp_in (nI i) 10 := nI_in (by omega) (by omega)
    have tN : vp_in (nI t) 10 := nI_in (by omega) (by omega)
    exact brF (nI_ge hi (by omega)) ⟨iN, tN, br (fun q => yes (Or.inl q)) (fun q => ⟨iN, tN, br (fun q2 => br (fun q3 => no (by omega)) (fun q3 => yes (Or.inr ⟨q2, by omega⟩))) (fun q2 => no (by omega))⟩)⟩
theorem c_townInOrder {C : Nat → Int32} {S : Nat → Nat} {b : BH} (hC : AgC C S) (ok : OK S) {x k : Nat} (hx : x < 6) (hk : k < 2 ^ 31) {post : Int32 → BH → Prop} (h : ∀ b', post (besI (firstF (ordP (S 0) (yrs S x) k) (S 0))) b') : P_X0_townInOrder b C (nI x) (nI k) post := by
  have hT := ok.T
  unfold P_X0_townInOrder
  refine c_study hC ok hx (fun b' hb => ?_)
  obtain ⟨e1, e2⟩ := HS_y hb
  have yl := yrs_le ok hx
  have key := forN (fun n i => firstF (ordP (S 0) (yrs S x) k) i = none → P_X0_townInOrder_l10 b C (nI x) (nI k) post n b' (nI i)) (S 0) ?_ ?_ 0 (Nat.zero_le _)
  · obtain ⟨n, hn⟩ := key; exact ⟨n, hn rfl⟩
  · intro n hno
    show P_X0_townInOrder_b10 _ _ _ _ _ _ _ _
    unfold P_X0_townInOrder_b10
    rw [e1]
    have := h b'
    rw [hno] at this
    exact brT (nI_le (Nat.le_refl _) (by omega)) this
  · intro n i hi hv hno
    show P_X0_townInOrder_b10 _ _ _ _ _ _ _ _
    unfold P_X0_townInOrder_b10 P_X0_townInOrder_b45
    have yi := yl i hi
    rw [e1, nI_clamp (by omega), e2 i hi, show (1000 : Int32) = nI 1000 from rfl, i_leN (a := 1000) (b := yrs S x i) (by omega) (by omega)]
    refine brF (nI_ge hi (by omega)) ⟨nI_in (by omega) (by omega), br (fun q => fa1 (hv (firstF_no hno (decide_eq_false (by omega))))) (fun q => c_townsBefore hT hi e2 (fun u hu => by have := yl u hu; omega) ?_)⟩
    have bl : befN (S 0) (yrs S x) i ≤ 10 := by
      have := sumTo_le (n := S 0) (f := fun u => b1 (decide (yrs S x u < yrs S x i ∨ (yrs S x u = yrs S x i ∧ u < i)))) (c := 1) (fun _ _ => b1_le _)
      show sumTo (S 0) _ ≤ 10; omega
    rw [i_eqN (a := befN (S 0) (yrs S x) i) (b := k) (by omega) hk]
    refine br (fun z => ?_) (fun z => fa1 (hv (firstF_no hno (decide_eq_false (fun w => z w.2)))))
    have := h b'
    rw [firstF_up (firstF_hit hno (decide_eq_true ⟨by omega, z⟩)) (S 0) hi] at this
    exact this
