/-! law's cases about the text -/
theorem feR_le {t : Nat → Nat} {n : Nat} : ∀ (k s q : Nat), k ≤ n → feR t n k s = some q → q ≤ n
  | 0, s, q, _, h => by
    unfold feR at h
    split at h
    · cases h
    · cases h; exact Nat.le_refl _
  | k + 1, s, q, hk, h => by
    unfold feR at h
    split at h
    · cases h; exact Nat.sub_le _ _
    · exact feR_le k _ q (by omega) h
theorem readF_fe {t : Nat → Nat} {n : Nat} (S : Nat → Nat) : feR t n n 0 = (readF t n (n + 1) 0 S 0).1 := fe_readF (n + 1) 0 S 0 (by omega) (by omega)
theorem awI_n1 {t : Nat → Nat} {n q : Nat} (hn : n ≤ 100) (h : feR t n n 0 = some q) : ¬ awI (some q) = -1 := fun e => by
  have := feR_le n 0 q (Nat.le_refl _) h
  have e2 := congrArg Int32.toInt e
  rw [show awI (some q) = nI q from rfl, nI_toInt (by omega), show (-1 : Int32).toInt = -1 from rfl] at e2
  omega
