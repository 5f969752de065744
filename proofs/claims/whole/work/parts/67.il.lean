/-! if a road were laid -/
theorem x3_begin {rc C : Nat → Int32} {S : Nat → Nat} (hC : AgC C S) {post : (Nat → Int32) → Prop} (h : ∀ m, AgC m S → post m) : P_X3_begin rc C post := by
  unfold P_X3_begin
  exact s1_takeOver (fun w hw => h w (AgC_eq hC hw))
theorem x6_ifLaidOn {r tr : Nat → Int32} {S : Nat → Nat} {b : BM} (hM : AgM r S) (ok : OK S) {x y len : Int32} (hj : canJ S x y len = true) {post : Int32 → BM → (Nat → Int32) → Prop} (h : ∀ b' t', post (nI (allN (joinS S x y len))) b' t') : P_X6_ifLaidOn b r tr x y len post := by
  have hT := ok.T
  have ok' := OK_joinS ok hj
  unfold P_X6_ifLaidOn
  refine cp221 (fun q hq => ?_)
  have hq' := AgM_eq hM hq
  obtain ⟨a, c, m, ha, hb, hab, k1, k2, rfl, rfl, rfl, _⟩ := canJ_out ok hj
  rw [joinS_n (by omega) (by omega) (by omega)] at h ok'
  exact x6_layOn hq' (by omega) (by omega) ok' (fun r' hr' => x6_inventionsInAll hr' ok' (fun b' => h b' r'))
theorem x6_ifLaid {o : Int32} {r tr : Nat → Int32} {S : Nat → Nat} {b : BM} (hM : AgM r S) (ok : OK S) {x y len : Int32} {post : Int32 → Int32 → BM → (Nat → Int32) → Prop} (h1 : ¬ whyL S x y len = 0 → post 0 (whyL S x y len) b tr)
    (h0 : canJ S x y len = true → ∀ b' t', post (nI (allN (joinS S x y len))) 0 b' t') : P_X6_ifLaid o b r tr x y len post := by
  unfold P_X6_ifLaid
  apply x6_whyNotLay hM ok
  by_cases z : canJ S x y len = true
  · rw [whyL_0 z]
    exact x6_ok (brT rfl (x6_ifLaidOn hM ok z (fun b' t' => h0 z b' t')))
  · have nz : whyL S x y len = 1 ∨ whyL S x y len = 2 ∨ whyL S x y len = 3 := by
      unfold whyL
      split
      · split
        · right; left; rfl
        · right; right; rfl
      · left; rfl
    rcases nz with e | e | e <;> rw [e] at h1 ⊢
    · exact x6_no1 (brF f10 (h1 (by decide)))
    · exact x6_no2 (brF f10 (h1 (by decide)))
    · exact x6_no3 (brF f10 (h1 (by decide)))
theorem l_ifLaid {C rc : Nat → Int32} {S : Nat → Nat} {a : Nat → Int64} {bh : BH} (hC : AgC C S) (ok : OK S) {x y len : Int32} {post : Int32 → (Nat → Int32) → BH → (Nat → Int64) → Prop} (h1 : ¬ whyL S x y len = 0 → post (whyL S x y len) rc bh a)
    (h0 : canJ S x y len = true → ∀ m' b', post 0 m' b' (outA a (nI (allN (joinS S x y len))))) : P_L_ifLaid 1 C rc bh a x y len post := by
  unfold P_L_ifLaid P_X5_ifLaid P_X5_needPossibleRoad P_X5_needPossibleRoad_b22
  have w1 : ¬ (isT (S 0) x = true ∧ isT (S 0) y = true) → post 1 rc bh a := fun z => by
    have e : whyL S x y len = 1 := if_neg z
    rw [e] at h1; exact h1 (by decide)
  refine x5_needTown hC ok (fun e => Or.inl ⟨rfl, w1 (fun q => by rw [e] at q; exact nomatch q.1)⟩) (fun e => x5_needTown hC ok (fun f => Or.inl ⟨rfl, w1 (fun q => by rw [f] at q; exact nomatch q.2)⟩) (fun f => ?_))
  have w2 : (x = y ∨ isLen len = false) → post 2 rc bh a := fun z => by
    have e : whyL S x y len = 2 := by unfold whyL; rw [if_pos ⟨e, f⟩, if_pos z]
    rw [e] at h1; exact h1 (by decide)
  refine br (fun g => Or.inr (Or.inl ⟨rfl, w2 (Or.inl g)⟩)) (fun g => s5_isLength (bI_br (fun k => Or.inr (Or.inl ⟨rfl, w2 (Or.inr k)⟩)) (fun k => s1_canJoin hC ok (bI_br (fun z => Or.inr (Or.inr ⟨rfl, ?_⟩)) (fun z => x3_begin hC (fun m hm => ?_))))))
  · have e : whyL S x y len = 3 := by unfold whyL; rw [if_pos ⟨e, f⟩, if_neg (fun w => w.elim g (fun w => by rw [w] at k; exact nomatch k)), if_neg (by rw [z]; decide)]
    rw [e] at h1; exact h1 (by decide)
  · unfold P_X3_inventionsWithRoad
    exact s1_join hm ok (fun e => by rw [e] at z; exact nomatch z) (fun _ C' hC' => c_allInventions hC' (OK_joinS ok z) (fun b' => ⟨in01, h0 z C' b'⟩))
