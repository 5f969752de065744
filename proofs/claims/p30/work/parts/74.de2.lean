/-! the dearest report, both sides -/
def DR (q : Option Nat × Nat) (x1 : Int32) : Prop := x1 = besI q.1 ∧ q.2 ≤ 60
theorem deS_le {S : Nat → Nat} {q : Option Nat × Nat} {t x : Nat} (h : q.2 ≤ allN S) : (deS S q t x).2 ≤ allN S := by
  unfold deS
  split
  · rename_i w; show allN (dropS S t x) ≤ _; omega
  · exact h
theorem deIn_le {S : Nat → Nat} {q : Option Nat × Nat} {t : Nat} (h : q.2 ≤ allN S) : ∀ x, (deIn S t q x).2 ≤ allN S
  | 0 => h
  | x + 1 => deS_le (deIn_le h x)
theorem deOut_le {S : Nat → Nat} : ∀ t, (deOut S t).2 ≤ allN S
  | 0 => Nat.le_refl _
  | t + 1 => deIn_le (deOut_le t) 6
theorem c_costliest {C : Nat → Int32} {S : Nat → Nat} {bh : BH} (hC : AgC C S) (ok : OK S) {post : Int32 → (Nat → Int32) → BH → Prop} (h : ∀ m b', post (besI (deOut S (S 0)).1) m b') : P_X3_costliestReport C bh post := by
  have hT := ok.T
  have aN := allN_le S
  unfold P_X3_costliestReport
  have key := forN (fun n t => ∀ m b', AgC m S → P_X3_costliestReport_l6 C bh post n m b' (besI (deOut S t).1) (nI (allN S - (deOut S t).2)) (nI t)) (S 0) ?_ ?_ 0 (Nat.zero_le _)
  · obtain ⟨n, hn⟩ := key
    have := hn C bh hC
    rw [show allN S - (deOut S 0).2 = 0 from Nat.sub_self _] at this
    exact ⟨n, this⟩
  · intro n m b' hm
    show P_X3_costliestReport_b6 _ _ _ _ _ _ _ _ _
    unfold P_X3_costliestReport_b6
    exact s1_townCount hm (brT (nI_le (Nat.le_refl _) (by omega)) (h m b'))
  · intro n t ht hv m b' hm
    show P_X3_costliestReport_b6 _ _ _ _ _ _ _ _ _
    unfold P_X3_costliestReport_b6
    refine s1_townCount hm (brF (nI_ge ht (by omega)) ?_)
    have inner := forN (fun k x => ∀ m b', AgC m S → P_X3_costliestReport_l20 C bh post (P_X3_costliestReport_l6 C bh post n) k m b' (besI (deIn S t (deOut S t) x).1) (nI (allN S - (deIn S t (deOut S t) x).2)) (nI t) (nI x)) 6 ?_ ?_ 0 (by omega)
    · obtain ⟨k, hk⟩ := inner; exact ⟨k, hk m b' hm⟩
    · intro k m b' hm
      show P_X3_costliestReport_b20 _ _ _ _ _ _ _ _ _ _ _
      unfold P_X3_costliestReport_b20
      exact brT (nI_le (a := 6) (Nat.le_refl _) (by omega)) (fa1 (hv m b' hm))
    · intro k x hx hw m b' hm
      show P_X3_costliestReport_b20 _ _ _ _ _ _ _ _ _ _ _
      have dl := deIn_le (S := S) (deOut_le (S := S) t) (t := t) x
      have keep : ∀ m b', AgC m S → deIn S t (deOut S t) (x + 1) = deIn S t (deOut S t) x → P_X3_costliestReport_b70 C bh post (P_X3_costliestReport_l6 C bh post n) (P_X3_costliestReport_l20 C bh post (P_X3_costliestReport_l6 C bh post n) k) m b' (besI (deIn S t (deOut S t) x).1) (nI (allN S - (deIn S t (deOut S t) x).2)) (nI t) (nI x) := fun m b' hm e => by
        unfold P_X3_costliestReport_b70
        have := hw m b' hm
        rw [e] at this
        exact fa1 this
      unfold P_X3_costliestReport_b20 P_X3_costliestReport_b51
      refine brF (nI_ge (b := 6) hx (by omega)) (s1_isReported hm ok ?_)
      rw [show repX S (nI t) (nI x) = repd S t x by unfold repX; rw [yrX_h ht hx hT, yrX_n ht hx hT]; rfl]
      refine bI_br (fun e => brT (nI_pos' (by omega)) (keep m b' hm (if_neg (fun w => by rw [w.1] at e; exact nomatch e)))) (fun e => c_costOfReport hm ok ht hx (fun m2 b2 hm2 => ?_))
      have sum := allN_drop (S := S) (t := t) (x := x) hT (by omega) hx
      have l1 := FL_le (S := S) (x := x)
      have l2 := FL_le (S := dropS S t x) (x := x)
      have le : (nI (feN (FL S x)) - nI (feN (FL (dropS S t x) x)) ≤ nI (allN S - (deIn S t (deOut S t) x).2)) = ((deIn S t (deOut S t) x).2 ≤ allN (dropS S t x)) := by
        rw [i_le, pk_sub_toInt (by omega) (by omega), nI_toInt (by omega)]
        exact propext (by omega)
      rw [le]
      refine br (fun g => keep m2 b2 hm2 (if_neg (fun w => by omega))) (fun g => ?_)
      unfold P_X3_costliestReport_b70
      rw [mul10, nI_subN (by omega)]
      have e2 : deIn S t (deOut S t) (x + 1) = (some (10 * t + x), allN (dropS S t x)) := if_pos ⟨e, by omega⟩
      have := hw m2 b2 hm2
      rw [e2] at this
      refine fae (fa1 ?_)
      rw [show feN (FL S x) - feN (FL (dropS S t x) x) = allN S - allN (dropS S t x) by omega]
      exact this
