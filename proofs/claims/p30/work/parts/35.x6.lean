/-! the model's land -/
theorem sumTo_add {n : Nat} {f g : Nat → Nat} : sumTo n (fun i => f i + g i) = sumTo n f + sumTo n g := by
  induction n with
  | zero => rfl
  | succ n ih => show sumTo n (fun i => f i + g i) + (f n + g n) = sumTo n f + f n + (sumTo n g + g n); rw [ih]; omega
theorem sumTo_comm {n m : Nat} {f : Nat → Nat → Nat} : sumTo n (fun i => sumTo m (f i)) = sumTo m (fun j => sumTo n (fun i => f i j)) := by
  induction n with
  | zero => exact (sumTo_0 (fun _ _ => rfl)).symm
  | succ n ih =>
    show sumTo n (fun i => sumTo m (f i)) + sumTo m (f n) = sumTo m (fun j => sumTo n (fun i => f i j) + f n j)
    rw [ih, sumTo_add]
theorem sumTo_mul {n m : Nat} {f : Nat → Nat} : sumTo (m * n) f = sumTo m (fun a => sumTo n (fun b => f (n * a + b))) := by
  have cat : ∀ k p, sumTo (p + k) f = sumTo p f + sumTo k (fun b => f (p + b)) := fun k p => by
    induction k with
    | zero => rfl
    | succ k ih => show sumTo (p + k) f + f (p + k) = sumTo p f + (sumTo k (fun b => f (p + b)) + f (p + k)); rw [ih]; omega
  induction m with
  | zero => rw [Nat.zero_mul]; rfl
  | succ m ih =>
    show _ = sumTo m (fun a => sumTo n (fun b => f (n * a + b))) + sumTo n (fun b => f (n * m + b))
    rw [Nat.succ_mul, cat n (m * n), ih, Nat.mul_comm m n]
theorem cnt_twice {S : Nat → Nat} (ok : OK S) : sumTo 100 (fun k => b1 (0 < S (1 + k))) = cnt S + cnt S := by
  rw [show (100 : Nat) = 10 * 10 from rfl, sumTo_mul]
  have e2 : cnt S = sumTo 10 (fun a => sumTo 10 (fun b => b1 (b < a && 0 < rd S a b))) := by
    unfold cnt
    rw [sumTo_comm]
    exact sumTo_congr (fun a ha => sumTo_congr (fun b hb => by show b1 _ = b1 _; rw [ok.sym hb ha]))
  have e3 : cnt S + cnt S = sumTo 10 (fun a => sumTo 10 (fun b => b1 (a < b && 0 < rd S a b))) + sumTo 10 (fun a => sumTo 10 (fun b => b1 (b < a && 0 < rd S a b))) := by rw [← e2]; rfl
  rw [e3, ← sumTo_add]
  refine sumTo_congr (fun a ha => ?_)
  show _ = sumTo 10 _ + sumTo 10 _
  rw [← sumTo_add]
  refine sumTo_congr (fun b hb => ?_)
  show b1 (decide (0 < S (1 + (10 * a + b)))) = b1 _ + b1 _
  rw [← Nat.add_assoc]
  by_cases h : a < b
  · rw [decide_eq_true h, decide_eq_false (show ¬ b < a by omega), Bool.true_and, Bool.false_and]; rfl
  · by_cases g : b < a
    · rw [decide_eq_true g, decide_eq_false h, Bool.true_and, Bool.false_and]; exact (Nat.zero_add _).symm
    · have e : a = b := by omega
      subst e
      have := ok.diag ha
      rw [decide_eq_false h, Bool.false_and]
      show b1 (decide (0 < rd S a a)) = _
      rw [this]; rfl
theorem l_lt {a b : Int64} : a < b ↔ a.toInt < b.toInt := Int64.lt_iff_toInt_lt
theorem nI_m1 {n : Nat} (hn : n < 2 ^ 31) : (nI n - 1).toInt = (n : Int) - 1 := by
  cases n with
  | zero => rfl
  | succ n => rw [nI_pred, nI_toInt (by omega)]; omega
theorem mx10 (a b : Nat) : ((1 : Int32) + ((10 : Int32) * nI a)) + nI b = nI (1 + 10 * a + b) := by
  rw [show (1 : Int32) = nI 1 from rfl, show (10 : Int32) = nI 10 from rfl, pk_mul, nI_add, nI_add]
theorem mx6 (c a b : Nat) : nI c + (((6 : Int32) * nI a) + nI b) = nI (c + (6 * a + b)) := by
  rw [show (6 : Int32) = nI 6 from rfl, pk_mul, nI_add, nI_add]
theorem mxr {a b : Nat} (ha : a < 10) (hb : b < 10) : (((1 : Int32) + ((10 : Int32) * nI a)) + nI b).toNatClampNeg = 1 + 10 * a + b ∧ vp_in (((1 : Int32) + ((10 : Int32) * nI a)) + nI b) 221 := by
  rw [mx10]; exact ⟨nI_clamp (by omega), nI_in (by omega) (by omega)⟩
theorem mxh {a b : Nat} (ha : a < 10) (hb : b < 6) : ((101 : Int32) + (((6 : Int32) * nI a) + nI b)).toNatClampNeg = 101 + 6 * a + b ∧ vp_in ((101 : Int32) + (((6 : Int32) * nI a) + nI b)) 221 := by
  rw [show (101 : Int32) = nI 101 from rfl, mx6, ← Nat.add_assoc]; exact ⟨nI_clamp (by omega), nI_in (by omega) (by omega)⟩
theorem mxn {a b : Nat} (ha : a < 10) (hb : b < 6) : ((161 : Int32) + (((6 : Int32) * nI a) + nI b)).toNatClampNeg = 161 + 6 * a + b ∧ vp_in ((161 : Int32) + (((6 : Int32) * nI a) + nI b)) 221 := by
  rw [show (161 : Int32) = nI 161 from rfl, mx6, ← Nat.add_assoc]; exact ⟨nI_clamp (by omega), nI_in (by omega) (by omega)⟩
theorem brN0 {n : Nat} {A B : Prop} (hn : n < 2 ^ 31) (h0 : n = 0 → A) (h1 : 0 < n → B) : (nI n ≤ 0 → A) ∧ (¬ (nI n ≤ 0) → B) := by
  rw [show (0 : Int32) = nI 0 from rfl, i_leN hn (by omega)]; exact ⟨fun q => h0 (by omega), fun q => h1 (by omega)⟩
theorem brE0 {n : Nat} {A B : Prop} (hn : n < 2 ^ 31) (h0 : n = 0 → A) (h1 : 0 < n → B) : (nI n = 0 → A) ∧ (¬ (nI n = 0) → B) := by
  rw [show (0 : Int32) = nI 0 from rfl, i_eqN hn (by omega)]; exact ⟨h0, fun q => h1 (by omega)⟩
theorem fa2 {a b : Nat} {A : Int32 → Prop} (h : A (nI (a + b))) : ∀ x : Int32, x = nI a + nI b → A x := fun x hx => by rw [hx, nI_add]; exact h
def whyL (S : Nat → Nat) (x y len : Int32) : Int32 :=
  if isT (S 0) x = true ∧ isT (S 0) y = true then (if x = y ∨ isLen len = false then 2 else if canJ S x y len = true then 0 else 3) else 1
