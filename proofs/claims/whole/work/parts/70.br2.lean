/-! the best road, the model's side -/
theorem whyL_c {S : Nat → Nat} {x y len : Int32} : whyL S x y len = 0 ↔ canJ S x y len = true := by
  constructor
  · intro h
    cases z : canJ S x y len with
    | true => rfl
    | false =>
      unfold whyL at h
      split at h
      · split at h
        · exact absurd h (by decide)
        · rw [if_neg (by rw [z]; decide)] at h; exact absurd h (by decide)
      · exact absurd h (by decide)
  · exact whyL_0
theorem x6_bestRoad {o : Int32} {r tr : Nat → Int32} {S : Nat → Nat} {bm : BM} (hM : AgM r S) (ok : OK S) {len : Int32} {post : Int32 → Int32 → BM → (Nat → Int32) → Prop} (h1 : isLen len = false → post 0 1 bm tr) (h0 : isLen len = true → ∀ b' t', post (brI (brOut S len (S 0))) 0 b' t') : P_X6_bestRoad o bm r tr len post := by
  have hT := ok.T
  unfold P_X6_bestRoad P_X6_bestRoad_b18
  refine x6_in' (f := isLen len) rfl (bI_br (fun e => x6_no1 (brF f10 (h1 e))) (fun e => x6_ok (brT rfl ?_)))
  have h := h0 e
  have key := forN (fun n a => ∀ b' t' x2 x3, BR (brOut S len a) x2 x3 → P_X6_bestRoad_l33 o bm r tr len post n 0 b' t' x2 x3 (nI a)) (S 0) ?_ ?_ 0 (Nat.zero_le _)
  · obtain ⟨n, hn⟩ := key; exact ⟨n, hn bm tr (-1) 0 rfl⟩
  · intro n b' t' x2 x3 hB
    show P_X6_bestRoad_b33 _ _ _ _ _ _ _ _ _ _ _ _ _
    unfold P_X6_bestRoad_b33
    rw [m0 hM, BR_I hB]
    exact brT (nI_le (Nat.le_refl _) (by omega)) (h b' t')
  · intro n a ha hv b' t' x2 x3 hB
    show P_X6_bestRoad_b33 _ _ _ _ _ _ _ _ _ _ _ _ _
    unfold P_X6_bestRoad_b33
    rw [m0 hM]
    refine brF (nI_ge ha (by omega)) (fa1 ?_)
    have inner := forNl (fun k j => ∀ b' t' x2 x3, BR (brIn S len a (brOut S len a) j) x2 x3 → P_X6_bestRoad_l50 o bm r tr len post (P_X6_bestRoad_l33 o bm r tr len post n) k 0 b' t' x2 x3 (nI a) (nI j)) (S 0) (a + 1) ha ?_ ?_
    · obtain ⟨k, hk⟩ := inner; exact ⟨k, hk b' t' x2 x3 (by rw [brIn_0 _ (Nat.le_refl _)]; exact hB)⟩
    · intro k b' t' x2 x3 hB
      show P_X6_bestRoad_b50 _ _ _ _ _ _ _ _ _ _ _ _ _ _ _
      unfold P_X6_bestRoad_b50
      rw [m0 hM]
      exact brT (nI_le (Nat.le_refl _) (by omega)) (fa1 (hv b' t' x2 x3 hB))
    · intro k j hj1 hj hw b' t' x2 x3 hB
      show P_X6_bestRoad_b50 _ _ _ _ _ _ _ _ _ _ _ _ _ _ _
      have r9 := ok.r99 (a := a) (b := j) (by omega) (by omega)
      have st : brIn S len a (brOut S len a) (j + 1) = brS S len (brIn S len a (brOut S len a) j) a j := if_pos (show a < j by omega)
      have skip : ∀ b' t' x3, BR (brIn S len a (brOut S len a) j) x2 x3 → brS S len (brIn S len a (brOut S len a) j) a j = brIn S len a (brOut S len a) j → P_X6_bestRoad_b149 o bm r tr len post (P_X6_bestRoad_l33 o bm r tr len post n) (P_X6_bestRoad_l50 o bm r tr len post (P_X6_bestRoad_l33 o bm r tr len post n) k) 0 b' t' x2 x3 (nI a) (nI j) := fun b' t' x3 hB e => by
        unfold P_X6_bestRoad_b149
        exact fa1 (hw b' t' x2 x3 (by rw [st, e]; exact hB))
      unfold P_X6_bestRoad_b50
      rw [m0 hM]
      refine brF (nI_ge hj (by omega)) (x6_length hM (by omega) (by omega) (brE0 (by omega) (fun z => x6_whyNotLay hM ok (br (c := whyL S (nI a) (nI j) len = 0) (fun g => ?_) (fun g => skip b' t' x3 hB (if_neg (fun w => g (whyL_0 w.2)))))) (fun z => skip b' t' x3 hB (if_neg (fun w => by omega)))))
      have e := whyL_c.mp g
      refine x6_ifLaidOn hM ok e (fun b2 t2 => ?_)
      have aN := allN_le (joinS S (nI a) (nI j) len)
      have take : (brS S len (brIn S len a (brOut S len a) j) a j = some (10 * a + j, allN (joinS S (nI a) (nI j) len))) → P_X6_bestRoad_b112 o bm r tr len post (P_X6_bestRoad_l33 o bm r tr len post n) (P_X6_bestRoad_l50 o bm r tr len post (P_X6_bestRoad_l33 o bm r tr len post n) k) 0 b2 t2 x2 x3 (nI a) (nI j) (nI (allN (joinS S (nI a) (nI j) len))) := fun e2 => by
        unfold P_X6_bestRoad_b112 P_X6_bestRoad_b117 P_X6_bestRoad_b136 P_X6_bestRoad_b148 P_X6_bestRoad_b149
        rw [mul10]
        exact brF f10 (brF f10 (fa1 (hw b2 t2 _ _ (by rw [st, e2]; exact ⟨rfl, rfl, by omega, aN⟩))))
      cases hq : brIn S len a (brOut S len a) j with
      | none =>
        rw [hq] at hB take
        exact brT hB (take (by unfold brS; rw [if_pos ⟨z, e⟩]))
      | some v =>
        obtain ⟨p, l⟩ := v
        have ne := BR_p hq (by rw [hq]; rw [hq] at hB; exact hB)
        rw [hq] at hB take skip
        have hB' := hB
        obtain ⟨b1, b2', b3, b4⟩ := hB'
        refine brF ne ?_
        have le : (x3 ≤ nI (allN (joinS S (nI a) (nI j) len))) = (l ≤ allN (joinS S (nI a) (nI j) len)) := by rw [b2', i_leN (by omega) (by omega)]
        rw [le]
        refine br (fun g => ?_) (fun g => take ?_)
        · unfold P_X6_bestRoad_b117 P_X6_bestRoad_b136 P_X6_bestRoad_b148
          exact brT rfl (brT rfl (skip b2 t2 x3 hB (by unfold brS; rw [if_pos ⟨z, e⟩]; exact if_neg (by omega))))
        · unfold brS; rw [if_pos ⟨z, e⟩]; exact if_pos (by omega)
theorem l_bestRoad {C rc : Nat → Int32} {S : Nat → Nat} {a : Nat → Int64} {bh : BH} (hC : AgC C S) (ok : OK S) {len : Int32} {post : Int32 → (Nat → Int32) → BH → (Nat → Int64) → Prop} (h1 : isLen len = false → post 1 rc bh a) (h0 : isLen len = true → ∀ m' b', post 0 m' b' (outA a (brI (brOut S len (S 0))))) : P_L_bestRoad 1 C rc bh a len post := by
  unfold P_L_bestRoad P_X5_bestRoad
  exact s5_isLength (bI_br (fun e => ⟨rfl, h1 e⟩) (fun e => x3_begin hC (fun m hm => c_newRoad hm ok (fun m' b' => ⟨in01, h0 e m' b'⟩))))
