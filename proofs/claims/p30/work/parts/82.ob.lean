/-! a command, the class's side -/
theorem c_obeys {C : Nat → Int32} {S : Nat → Nat} {bh : BH} (hC : AgC C S) (ok : OK S) {g : Nat} (hg : g < 1000000) {post : Int32 → (Nat → Int32) → BH → Prop} (h0 : ¬ cmdP S (g / 100000) (g / 10000 % 10) (g / 1000 % 10) (g % 1000) → ∀ m' b', post 0 m' b')
    (h1 : cmdP S (g / 100000) (g / 10000 % 10) (g / 1000 % 10) (g % 1000) → ∀ m' b', AgC m' (cmdS S (g / 100000) (g / 10000 % 10) (g / 1000 % 10) (g % 1000)) → post 1 m' b') : P_X3_obeys C bh (nI g) post := by
  have hT := ok.T
  have hk : g / 100000 < 10 := by omega
  have ha : g / 10000 % 10 < 10 := by omega
  have hb : g / 1000 % 10 < 10 := by omega
  have hc : g % 1000 < 1000 := by omega
  unfold P_X3_obeys
  rw [show (10000 : Int32) = nI 10000 from rfl, show (1000 : Int32) = nI 1000 from rfl, show (100000 : Int32) = nI 100000 from rfl, show (10 : Int32) = nI 10 from rfl]
  rw [md (p := g) (d := 1000) (by omega) (by omega) (by omega), dv (p := g) (d := 10000) (by omega) (by omega) (by omega), dv (p := g) (d := 1000) (by omega) (by omega) (by omega), dv (p := g) (d := 100000) (by omega) (by omega) (by omega)]
  rw [md (p := g / 10000) (d := 10) (by omega) (by omega) (by omega), md (p := g / 1000) (d := 10) (by omega) (by omega) (by omega)]
  refine fae (fae (fae (fae ?_)))
  generalize g / 100000 = k at hk h0 h1 ⊢
  generalize g / 10000 % 10 = a at ha h0 h1 ⊢
  generalize g / 1000 % 10 = b at hb h0 h1 ⊢
  generalize g % 1000 = c at hc h0 h1 ⊢
  have kj : ∀ j, j < 10 → nI k = nI j → k = j := fun j hj e => by rw [i_eqN (by omega) (by omega)] at e; exact e
  have la : isT 6 (nI a) = decide (a < 6) := isT_nI (by omega)
  have lb : isT 6 (nI b) = decide (b < 6) := isT_nI (by omega)
  have lt : isT (S 0) (nI a) = decide (a < S 0) := isT_nI (by omega)
  unfold P_X3_obeys_b108 P_X3_obeys_b109 P_X3_obeys_b144 P_X3_obeys_b145 P_X3_obeys_b167 P_X3_obeys_b189 P_X3_obeys_b212 P_X3_obeys_b213 P_X3_obeys_b256 P_X3_obeys_b257 P_X3_obeys_b293 P_X3_obeys_b294 P_X3_obeys_b338 P_X3_obeys_b339
  refine ⟨fun e => ?_, fun e => ?_, fun e => ?_, fun e => ?_, fun e => ?_, fun e => ?_, fun e => ?_, fun e => ?_, fun e => ?_, fun e1 e2 e3 e4 e5 e6 e7 e8 e9 => ?_⟩
  · obtain rfl := kj 1 (by omega) e
    have F : ¬ (a = 0 ∧ b = 0 ∧ c = 0 ∧ S 0 < 10) → ∀ m' b', post 0 m' b' := h0
    have T : (a = 0 ∧ b = 0 ∧ c = 0 ∧ S 0 < 10) → ∀ m' b', AgC m' (townS S) → post 1 m' b' := h1
    refine brE0 (by omega) (fun za => brE0 (by omega) (fun zb => brE0 (by omega) (fun zc => s1_addTown hC ok (fun z => brT rfl ⟨rfl, F (fun w => by omega) _ _⟩) (fun z C' hC' => brF (nI_nm1 (by omega)) ⟨rfl, T ⟨za, zb, zc, z⟩ _ _ hC'⟩)) (fun zc => ⟨rfl, F (fun w => by omega) _ _⟩)) (fun zb => ⟨rfl, F (fun w => by omega) _ _⟩)) (fun za => ⟨rfl, F (fun w => by omega) _ _⟩)
  · obtain rfl := kj 2 (by omega) e
    have F : ¬ (canJ S (nI a) (nI b) (nI c) = true) → ∀ m' b', post 0 m' b' := h0
    have T : (canJ S (nI a) (nI b) (nI c) = true) → ∀ m' b', AgC m' (joinS S (nI a) (nI b) (nI c)) → post 1 m' b' := h1
    exact s1_join hC ok (fun z => ⟨rfl, F (by rw [z]; decide) _ _⟩) (fun z C' hC' => ⟨rfl, T z _ _ hC'⟩)
  · obtain rfl := kj 3 (by omega) e
    have F : ¬ (c = 0 ∧ 0 < rdX S (nI a) (nI b)) → ∀ m' b', post 0 m' b' := h0
    have T : (c = 0 ∧ 0 < rdX S (nI a) (nI b)) → ∀ m' b', AgC m' (cutS S (nI a) (nI b)) → post 1 m' b' := h1
    have r9 := rdX_99 ok (nI a) (nI b)
    refine brE0 (by omega) (fun zc => s1_cut hC ok (fun C' hC' => brR (by omega) (fun z => ⟨rfl, F (fun w => by omega) _ _⟩) (fun z => ⟨rfl, T ⟨zc, z⟩ _ _ hC'⟩))) (fun zc => ⟨rfl, F (fun w => by omega) _ _⟩)
  · obtain rfl := kj 4 (by omega) e
    have F : ¬ (isNote S (nI a) (nI b) (nI c) = true) → ∀ m' b', post 0 m' b' := h0
    have T : (isNote S (nI a) (nI b) (nI c) = true) → ∀ m' b', AgC m' (noteS S a b c 1) → post 1 m' b' := h1
    refine s1_note hC ok (fun z => brT rfl ⟨rfl, F (by rw [z]; decide) _ _⟩) (fun z C' hC' => brF (bI_nm1 _) ⟨rfl, T z _ _ ?_⟩)
    rw [NN_nI (by omega), NN_nI (by omega), NN_nI (by omega)] at hC'; exact hC'
  · obtain rfl := kj 5 (by omega) e
    have F : ¬ (isNote S (nI a) (nI b) (nI c) = true) → ∀ m' b', post 0 m' b' := h0
    have T : (isNote S (nI a) (nI b) (nI c) = true) → ∀ m' b', AgC m' (noteS S a b c 0) → post 1 m' b' := h1
    refine s1_note hC ok (fun z => brT rfl ⟨rfl, F (by rw [z]; decide) _ _⟩) (fun z C' hC' => brF (bI_nm1 _) ⟨rfl, T z _ _ ?_⟩)
    rw [NN_nI (by omega), NN_nI (by omega), NN_nI (by omega)] at hC'; exact hC'
  · obtain rfl := kj 6 (by omega) e
    have F : ¬ (c = 0 ∧ isPair S (nI a) (nI b) = true) → ∀ m' b', post 0 m' b' := h0
    have T : (c = 0 ∧ isPair S (nI a) (nI b) = true) → ∀ m' b', AgC m' (dropS S a b) → post 1 m' b' := h1
    refine brE0 (by omega) (fun zc => s1_drop hC ok (fun z => brT rfl ⟨rfl, F (fun w => by rw [w.2] at z; exact nomatch z) _ _⟩) (fun z C' hC' => brF (bI_nm1 _) ⟨rfl, T ⟨zc, z⟩ _ _ ?_⟩)) (fun zc => ⟨rfl, F (fun w => by omega) _ _⟩)
    rw [NN_nI (by omega), NN_nI (by omega)] at hC'; exact hC'
  · obtain rfl := kj 7 (by omega) e
    have F : ¬ (b = 0 ∧ c ≤ 99 ∧ a < 6 ∧ upT (feI (FL S a)) (nI c)) → ∀ m' b', post 0 m' b' := h0
    have T : (b = 0 ∧ c ≤ 99 ∧ a < 6 ∧ upT (feI (FL S a)) (nI c)) → ∀ m' b', AgC m' S → post 1 m' b' := h1
    rw [show (99 : Int32) = nI 99 from rfl, i_ltN (by omega) (by omega)]
    refine brE0 (by omega) (fun zb => br (fun zc => ⟨rfl, F (fun w => by omega) _ _⟩) (fun zc => s5_isTrait (bI_br (fun za => ?_) (fun za => ?_)))) (fun zb => ⟨rfl, F (fun w => by omega) _ _⟩)
    · rw [la] at za
      have := of_decide_eq_false za
      exact ⟨rfl, F (fun w => by omega) _ _⟩
    · rw [la] at za
      have ha6 := of_decide_eq_true za
      exact c_study hC ok ha6 (fun b' _ => s3_isUpTo (fun u => brT rfl ⟨rfl, F (fun w => u w.2.2.2) _ _⟩) (fun u => brF f10 ⟨rfl, T ⟨zb, by omega, ha6, u⟩ _ _ hC⟩))
  · obtain rfl := kj 8 (by omega) e
    have F : ¬ (a = 0 ∧ b = 0 ∧ c ≤ 99 ∧ ¬ nI c < nI (allN S)) → ∀ m' b', post 0 m' b' := h0
    have T : (a = 0 ∧ b = 0 ∧ c ≤ 99 ∧ ¬ nI c < nI (allN S)) → ∀ m' b', AgC m' S → post 1 m' b' := h1
    rw [show (99 : Int32) = nI 99 from rfl, i_ltN (a := 99) (b := c) (by omega) (by omega)]
    refine brE0 (by omega) (fun za => brE0 (by omega) (fun zb => br (fun zc => ⟨rfl, F (fun w => by omega) _ _⟩) (fun zc => c_allInventions hC ok (fun b' => br (fun u => ⟨rfl, F (fun w => w.2.2.2 u) _ _⟩) (fun u => ⟨rfl, T ⟨za, zb, by omega, u⟩ _ _ hC⟩)))) (fun zb => ⟨rfl, F (fun w => by omega) _ _⟩)) (fun za => ⟨rfl, F (fun w => by omega) _ _⟩)
  · obtain rfl := kj 9 (by omega) e
    have F : ¬ (a < S 0 ∧ b < 6 ∧ upT (sinceI S a b) (nI c)) → ∀ m' b', post 0 m' b' := h0
    have T : (a < S 0 ∧ b < 6 ∧ upT (sinceI S a b) (nI c)) → ∀ m' b', AgC m' S → post 1 m' b' := h1
    refine s1_isTown hC ok (bI_br (fun za => ?_) (fun za => s5_isTrait (bI_br (fun zb => ?_) (fun zb => ?_))))
    · rw [lt] at za
      have := of_decide_eq_false za
      exact ⟨rfl, F (fun w => by omega) _ _⟩
    · rw [lb] at zb
      have := of_decide_eq_false zb
      exact ⟨rfl, F (fun w => by omega) _ _⟩
    · rw [lt] at za
      rw [lb] at zb
      have haT := of_decide_eq_true za
      have hb6 := of_decide_eq_true zb
      exact c_sinceWhen hC ok haT hb6 (fun b' => s3_isUpTo (fun u => brT rfl ⟨rfl, F (fun w => u w.2.2) _ _⟩) (fun u => brF f10 ⟨rfl, T ⟨haT, hb6, u⟩ _ _ hC⟩))
  · have k0 : k = 0 := by
      have n : ∀ j, ¬ nI k = nI j → ¬ k = j := fun j hj q => hj (by rw [q])
      have n1 := n 1 e1
      have n2 := n 2 e2
      have n3 := n 3 e3
      have n4 := n 4 e4
      have n5 := n 5 e5
      have n6 := n 6 e6
      have n7 := n 7 e7
      have n8 := n 8 e8
      have n9 := n 9 e9
      omega
    subst k0
    exact h0 (fun w => w) _ _
