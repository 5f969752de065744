/-! a report read: one by one -/
def ch (t : Nat → Nat) (n i : Nat) : Nat := if i < n then t i else 300
theorem ch_in {t : Nat → Nat} {n i : Nat} (h : ch t n i < 256) : i < n ∧ ch t n i = t i := by
  unfold ch at h ⊢
  by_cases e : i < n
  · rw [if_pos e]; exact ⟨e, rfl⟩
  · rw [if_neg e] at h; omega
def yearAt (t : Nat → Nat) (n p : Nat) : Nat × Option Nat :=
  if dg (ch t n p) = false then (p, none)
  else if ch t n p = 48 then (p + 1, some 0)
  else if dg (ch t n (p + 1)) = false then (p + 1, some (ch t n p - 48))
  else if dg (ch t n (p + 2)) = false then (p + 2, some (10 * (ch t n p - 48) + (ch t n (p + 1) - 48)))
  else (p + 3, some (10 * (10 * (ch t n p - 48) + (ch t n (p + 1) - 48)) + (ch t n (p + 2) - 48)))
def PR (t : Nat → Nat) (n p : Nat) : Nat × Option (Nat × Nat × Nat × Nat) :=
  if dg (ch t n p) = false then (p, none)
  else if ¬ (ch t n (p + 1) = 43 ∨ ch t n (p + 1) = 45) then (p + 1, none)
  else if ¬ (48 ≤ ch t n (p + 2) ∧ ch t n (p + 2) ≤ 53) then (p + 2, none)
  else if ¬ ch t n (p + 3) = 58 then (p + 3, none)
  else ((yearAt t n (p + 4)).1, (yearAt t n (p + 4)).2.map (fun y => (ch t n p - 48, ch t n (p + 1), ch t n (p + 2) - 48, y)))
theorem dgT {c : Nat} (h : dg c = true) : 48 ≤ c ∧ c ≤ 57 := of_decide_eq_true h
theorem dgF {c : Nat} (h : dg c = false) : ¬ (48 ≤ c ∧ c ≤ 57) := of_decide_eq_false h
theorem dgn {c : Nat} (h : ¬ dg c = false) : dg c = true := by cases e : dg c with
  | true => rfl
  | false => exact absurd e h
section
variable {s : Nat → Int32} {n : Nat} {t : Nat → Nat} {sp : Int32}
theorem nI_l64 {a : Nat} (h : a < 2 ^ 31) : (nI a).toInt64.toInt = (a : Int) := by rw [Int32.toInt_toInt64, nI_toInt h]
theorem yearAt_lt {p q y : Nat} (h : yearAt t n p = (q, some y)) : y < 1000 ∧ p + 1 ≤ q ∧ q ≤ n := by
  unfold yearAt at h
  cases e0 : dg (ch t n p) with
  | false => rw [if_pos e0] at h; cases h
  | true =>
    have d0 := dgT e0
    have n0 := ch_in (t := t) (n := n) (i := p) (by omega)
    rw [if_neg (by rw [e0]; decide)] at h
    by_cases z : ch t n p = 48
    · rw [if_pos z] at h; cases h; omega
    rw [if_neg z] at h
    cases e1 : dg (ch t n (p + 1)) with
    | false => rw [if_pos e1] at h; cases h; omega
    | true =>
      have d1 := dgT e1
      have n1 := ch_in (t := t) (n := n) (i := p + 1) (by omega)
      rw [if_neg (by rw [e1]; decide)] at h
      cases e2 : dg (ch t n (p + 2)) with
      | false => rw [if_pos e2] at h; cases h; omega
      | true =>
        have d2 := dgT e2
        have n2 := ch_in (t := t) (n := n) (i := p + 2) (by omega)
        rw [if_neg (by rw [e2]; decide)] at h; cases h; omega
end
def repS (S : Nat → Nat) (r : Nat × Nat × Nat × Nat) : Nat → Nat := if r.1 < S 0 then noteS S r.1 r.2.2.1 r.2.2.2 (if r.2.1 = 43 then 1 else 0) else S
def repO (S : Nat → Nat) (r : Nat × Nat × Nat × Nat) : Nat := if r.1 < S 0 then 0 else 1
theorem PR_out {t : Nat → Nat} {n p q : Nat} {x : Nat × Nat × Nat × Nat} (h : PR t n p = (q, some x)) : x.1 < 10 ∧ x.2.2.1 < 6 ∧ x.2.2.2 < 1000 ∧ p + 5 ≤ q ∧ q ≤ n := by
  unfold PR at h
  by_cases e0 : dg (ch t n p) = false
  · rw [if_pos e0] at h; cases h
  rw [if_neg e0] at h
  have d0 := dgT (dgn e0)
  by_cases e1 : ¬ (ch t n (p + 1) = 43 ∨ ch t n (p + 1) = 45)
  · rw [if_pos e1] at h; cases h
  rw [if_neg e1] at h
  by_cases e2 : ¬ (48 ≤ ch t n (p + 2) ∧ ch t n (p + 2) ≤ 53)
  · rw [if_pos e2] at h; cases h
  rw [if_neg e2] at h
  by_cases e3 : ¬ ch t n (p + 3) = 58
  · rw [if_pos e3] at h; cases h
  rw [if_neg e3] at h
  generalize hy : yearAt t n (p + 4) = yy at h
  obtain ⟨a, b⟩ := yy
  cases b with
  | none => cases h
  | some y =>
    cases h
    have := yearAt_lt hy
    show ch t n p - 48 < 10 ∧ ch t n (p + 2) - 48 < 6 ∧ y < 1000 ∧ _
    omega
theorem OK_repS {S : Nat → Nat} (ok : OK S) {t : Nat → Nat} {n p q : Nat} {x : Nat × Nat × Nat × Nat} (h : PR t n p = (q, some x)) : OK (repS S x) := by
  have b := PR_out h
  unfold repS
  by_cases e : x.1 < S 0
  · rw [if_pos e]; exact OK_noteS ok e b.2.1 b.2.2.1 _
  · rw [if_neg e]; exact ok
