/-! the best road to lay -/
noncomputable def brS (S : Nat → Nat) (len : Int32) (q : Option (Nat × Nat)) (a b : Nat) : Option (Nat × Nat) :=
  if rd S a b = 0 ∧ canJ S (nI a) (nI b) len = true then (match q with
    | none => some (10 * a + b, allN (joinS S (nI a) (nI b) len))
    | some (p, l) => if allN (joinS S (nI a) (nI b) len) < l then some (10 * a + b, allN (joinS S (nI a) (nI b) len)) else some (p, l)) else q
noncomputable def brIn (S : Nat → Nat) (len : Int32) (a : Nat) (q : Option (Nat × Nat)) : Nat → Option (Nat × Nat)
  | 0 => q
  | j + 1 => if a < j then brS S len (brIn S len a q j) a j else brIn S len a q j
noncomputable def brOut (S : Nat → Nat) (len : Int32) : Nat → Option (Nat × Nat)
  | 0 => none
  | a + 1 => brIn S len a (brOut S len a) (S 0)
theorem brIn_0 {S : Nat → Nat} {len : Int32} {a : Nat} {q : Option (Nat × Nat)} : ∀ j, j ≤ a + 1 → brIn S len a q j = q
  | 0, _ => rfl
  | j + 1, h => by show (if a < j then _ else brIn S len a q j) = q; rw [if_neg (by omega)]; exact brIn_0 j (by omega)
def BR (q : Option (Nat × Nat)) (x2 x3 : Int32) : Prop := match q with
  | none => x2 = -1
  | some (p, l) => x2 = nI p ∧ x3 = nI l ∧ p < 1000 ∧ l ≤ 60
def brI : Option (Nat × Nat) → Int32
  | none => -1
  | some (p, _) => nI p
theorem BR_I {q : Option (Nat × Nat)} {x2 x3 : Int32} (h : BR q x2 x3) : x2 = brI q := by
  cases q with
  | none => exact h
  | some v => obtain ⟨p, l⟩ := v; exact h.1
theorem BR_p {q : Option (Nat × Nat)} {x2 x3 : Int32} {p l : Nat} (hq : q = some (p, l)) (h : BR q x2 x3) : ¬ x2 = -1 := by
  rw [hq] at h
  obtain ⟨h1, h2, h3, h4⟩ := h
  intro e
  rw [h1] at e
  have := congrArg Int32.toInt e
  rw [nI_toInt (by omega), show (-1 : Int32).toInt = -1 from rfl] at this; omega
theorem AgC_congr {C : Nat → Int32} {S S' : Nat → Nat} (h : AgC C S) (e : ∀ k, k < 221 → S k = S' k) : AgC C S' := fun k hk => by
  rw [h k hk]; unfold cC; rw [e 0 (by omega), e k hk]
theorem back {S : Nat → Nat} {a b n : Nat} (ha : a < 10) (hb : b < 10) (hab : a ≠ b) (h1 : rd S a b = 0) (h2 : rd S b a = 0) (k : Nat) : setRd (setRd S a b n) a b 0 k = S k := by
  have h1' : S (1 + 10 * a + b) = 0 := h1
  have h2' : S (1 + 10 * b + a) = 0 := h2
  unfold setRd setS
  by_cases e : k = 1 + 10 * b + a
  · rw [if_pos e, e, h2']
  · rw [if_neg e]
    by_cases f : k = 1 + 10 * a + b
    · rw [if_pos f, f, h1']
    · rw [if_neg f, if_neg e, if_neg f]
theorem mul10 (a b : Nat) : ((10 : Int32) * nI a) + nI b = nI (10 * a + b) := by
  rw [show (10 : Int32) = nI 10 from rfl, pk_mul, nI_add]
theorem c_newRoad {C : Nat → Int32} {S : Nat → Nat} {bh : BH} (hC : AgC C S) (ok : OK S) {len : Int32} {post : Int32 → (Nat → Int32) → BH → Prop} (h : ∀ m b', post (brI (brOut S len (S 0))) m b') : P_X3_newRoad C bh len post := by
  have hT := ok.T
  unfold P_X3_newRoad
  have key := forN (fun n a => ∀ m b' x2 x3, AgC m S → BR (brOut S len a) x2 x3 → P_X3_newRoad_l7 C bh len post n m b' x2 x3 (nI a)) (S 0) ?_ ?_ 0 (Nat.zero_le _)
  · obtain ⟨n, hn⟩ := key; exact ⟨n, hn C bh (-1) 0 hC rfl⟩
  · intro n m b' x2 x3 hm hB
    show P_X3_newRoad_b7 _ _ _ _ _ _ _ _ _ _
    unfold P_X3_newRoad_b7
    refine s1_townCount hm (brT (nI_le (Nat.le_refl _) (by omega)) ?_)
    rw [BR_I hB]; exact h m b'
  · intro n a ha hv m b' x2 x3 hm hB
    show P_X3_newRoad_b7 _ _ _ _ _ _ _ _ _ _
    unfold P_X3_newRoad_b7
    refine s1_townCount hm (brF (nI_ge ha (by omega)) (fa1 ?_))
    have inner := forNl (fun k j => ∀ m b' x2 x3, AgC m S → BR (brIn S len a (brOut S len a) j) x2 x3 → P_X3_newRoad_l25 C bh len post (P_X3_newRoad_l7 C bh len post n) k m b' x2 x3 (nI a) (nI j)) (S 0) (a + 1) ha ?_ ?_
    · obtain ⟨k, hk⟩ := inner; exact ⟨k, hk m b' x2 x3 hm (by rw [brIn_0 _ (Nat.le_refl _)]; exact hB)⟩
    · intro k m b' x2 x3 hm hB
      show P_X3_newRoad_b25 _ _ _ _ _ _ _ _ _ _ _ _
      unfold P_X3_newRoad_b25
      exact s1_townCount hm (brT (nI_le (Nat.le_refl _) (by omega)) (fa1 (hv m b' x2 x3 hm hB)))
    · intro k j hj1 hj hw m b' x2 x3 hm hB
      show P_X3_newRoad_b25 _ _ _ _ _ _ _ _ _ _ _ _
      have r9 := ok.r99 (a := a) (b := j) (by omega) (by omega)
      have st : brIn S len a (brOut S len a) (j + 1) = brS S len (brIn S len a (brOut S len a) j) a j := if_pos (show a < j by omega)
      have skip : ∀ m b', AgC m S → brS S len (brIn S len a (brOut S len a) j) a j = brIn S len a (brOut S len a) j → P_X3_newRoad_b115 C bh len post (P_X3_newRoad_l7 C bh len post n) (P_X3_newRoad_l25 C bh len post (P_X3_newRoad_l7 C bh len post n) k) m b' x2 x3 (nI a) (nI j) := fun m b' hm e => by
        unfold P_X3_newRoad_b115
        exact fa1 (hw m b' x2 x3 hm (by rw [st, e]; exact hB))
      unfold P_X3_newRoad_b25
      refine s1_townCount hm (brF (nI_ge hj (by omega)) (s1_roadLengthN hm ok ha hj (brR (by omega) (fun z => ?_) (fun z => skip m b' hm (if_neg (fun w => by omega))))))
      refine s1_join hm ok (fun e => brT rfl (skip m b' hm (if_neg (fun w => by rw [w.2] at e; exact nomatch e)))) (fun e m2 hm2 => brF f10 ?_)
      have ok2 := OK_joinS ok e
      refine c_allInventions hm2 ok2 (fun b2 => s1_cut hm2 ok2 (fun m3 hm3 => ?_))
      have aN := allN_le (joinS S (nI a) (nI j) len)
      have hm3' : AgC m3 S := by
        obtain ⟨a', c', q, ha', hb', hab, k1, k2, e1, e2, e3, _⟩ := canJ_out ok e
        rw [i_eqN (by omega) (by omega)] at e1 e2
        subst e1 e2 e3
        unfold cutS at hm3
        rw [joinS_n (by omega) (by omega) (by omega)] at hm3
        have s0 : setRd S a j q 0 = S 0 := setRd_0
        rw [rdX_n (by rw [s0]; exact ha) (by rw [s0]; exact hj) (by rw [s0]; exact hT), setRd_at (by omega) (by omega), if_pos (by omega), NN_nI (by omega), NN_nI (by omega)] at hm3
        exact AgC_congr hm3 (fun k _ => back (by omega) (by omega) hab z (by rw [ok.sym (by omega) (by omega)]; exact z) k)
      have take : (brS S len (brIn S len a (brOut S len a) j) a j = some (10 * a + j, allN (joinS S (nI a) (nI j) len))) → P_X3_newRoad_b103 C bh len post (P_X3_newRoad_l7 C bh len post n) (P_X3_newRoad_l25 C bh len post (P_X3_newRoad_l7 C bh len post n) k) m3 b2 (nI a) (nI j) (nI (allN (joinS S (nI a) (nI j) len))) := fun e2 => by
        unfold P_X3_newRoad_b103 P_X3_newRoad_b115
        rw [mul10]
        exact fae (fa1 (hw m3 b2 _ _ hm3' (by rw [st, e2]; exact ⟨rfl, rfl, by omega, aN⟩)))
      cases hq : brIn S len a (brOut S len a) j with
      | none =>
        rw [hq] at hB take
        exact brT hB (take (by unfold brS; rw [if_pos ⟨z, e⟩]))
      | some v =>
        obtain ⟨p, l⟩ := v
        have ne := BR_p hq (by rw [hq]; rw [hq] at hB; exact hB)
        rw [hq] at hB take skip
        obtain ⟨b1, b2', b3, b4⟩ := hB
        refine brF ne ?_
        have le : (x3 ≤ nI (allN (joinS S (nI a) (nI j) len))) = (l ≤ allN (joinS S (nI a) (nI j) len)) := by rw [b2', i_leN (by omega) (by omega)]
        rw [le]
        refine br (fun g => skip m3 b2 hm3' ?_) (fun g => take ?_)
        · unfold brS; rw [if_pos ⟨z, e⟩]; exact if_neg (by omega)
        · unfold brS; rw [if_pos ⟨z, e⟩]; exact if_pos (by omega)
