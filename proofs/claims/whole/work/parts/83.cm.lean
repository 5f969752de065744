/-! a command, the model's side -/
theorem x6_command {r : Nat → Int32} {S : Nat → Nat} {bm : BM} (hM : AgM r S) (ok : OK S) {k a b c : Nat} (hk : k < 10) (ha : a < 10) (hb : b < 10) (hc : c < 1000) {post : Int32 → BM → (Nat → Int32) → Prop} (h0 : ¬ cmdP S k a b c → ∀ b' m', post 0 b' m')
    (h1 : cmdP S k a b c → ∀ b' m', AgM m' (cmdS S k a b c) → post 1 b' m') : P_X6_command bm r (nI k) (nI a) (nI b) (nI c) post := by
  have hT := ok.T
  have okc := OK_cmdS ok hk ha hb hc
  have kj : ∀ j, j < 10 → nI k = nI j → k = j := fun j hj e => by rw [i_eqN (by omega) (by omega)] at e; exact e
  have la : isT 6 (nI a) = decide (a < 6) := isT_nI (by omega)
  have lb : isT 6 (nI b) = decide (b < 6) := isT_nI (by omega)
  have lt : isT (S 0) (nI a) = decide (a < S 0) := isT_nI (by omega)
  have lt2 : isT (S 0) (nI b) = decide (b < S 0) := isT_nI (by omega)
  unfold P_X6_command
  rw [show (100 : Int32) = nI 100 from rfl, md (p := c) (d := 100) (by omega) (by omega) (by omega), i_leN (a := 100) (b := c) (by omega) (by omega)]
  refine fae ?_
  unfold P_X6_command_b80 P_X6_command_b133 P_X6_command_b134 P_X6_command_b180 P_X6_command_b181 P_X6_command_b218 P_X6_command_b228 P_X6_command_b229 P_X6_command_b269 P_X6_command_b270 P_X6_command_b362 P_X6_command_b363 P_X6_command_b415 P_X6_command_b416
  refine ⟨fun e => ?_, fun e => ?_, fun e => ?_, fun e => ?_, fun e => ?_, fun e => ?_, fun e => ?_, fun e => ?_, fun e => ?_, fun e1 e2 e3 e4 e5 e6 e7 e8 e9 => ?_⟩
  · obtain rfl := kj 1 (by omega) e
    have F : ¬ (a = 0 ∧ b = 0 ∧ c = 0 ∧ S 0 < 10) → ∀ b' m', post 0 b' m' := h0
    have T : (a = 0 ∧ b = 0 ∧ c = 0 ∧ S 0 < 10) → ∀ b' m', AgM m' (townS S) → post 1 b' m' := h1
    rw [nI_add, nI_add, m0 hM, show (10 : Int32) = nI 10 from rfl, i_eqN (a := S 0) (b := 10) (by omega) (by omega), show ((0 : Int32) < nI (a + b + c)) = (0 < a + b + c) from i_ltN (a := 0) (by omega) (by omega)]
    refine br (fun z => F (fun w => by omega) _ _) (fun z => br (fun y => F (fun w => by omega) _ _) (fun y => T (by omega) _ _ ?_))
    rw [nI_p1]
    exact AgM_upd (k := 0) hM rfl
  · obtain rfl := kj 2 (by omega) e
    have F : ¬ (canJ S (nI a) (nI b) (nI c) = true) → ∀ b' m', post 0 b' m' := h0
    have T : (canJ S (nI a) (nI b) (nI c) = true) → ∀ b' m', AgM m' (joinS S (nI a) (nI b) (nI c)) → post 1 b' m' := h1
    refine br (fun z => ⟨rfl, F (fun w => ?_) _ _⟩) (fun z => ?_)
    · obtain ⟨a', b', n, _, _, _, _, n99, _, _, en, _⟩ := canJ_out ok w
      rw [i_eqN (by omega) (by omega)] at en
      omega
    · rw [show c % 100 = c by omega]
      refine x6_whyNotLay hM ok (br (c := whyL S (nI a) (nI b) (nI c) = 0) (fun g => ?_) (fun g => ⟨rfl, F (fun w => g (whyL_0 w)) _ _⟩))
      have w := whyL_c.mp g
      have okj := OK_joinS ok w
      have T2 := T w
      obtain ⟨a', b', n, ha', hb', hab, n1, n99, ea, eb, en, _⟩ := canJ_out ok w
      rw [i_eqN (by omega) (by omega)] at ea eb en
      subst ea eb en
      rw [joinS_n (by omega) (by omega) (by omega)] at T2 okj
      refine x6_layOn hM ha hb okj (fun r' hr' => ?_)
      have cp := cnt_pos okj ha hb hab (by rw [setRd_at ha hb]; omega)
      have c15 := okj.cnt15
      exact brF (nI_nle cp (by omega)) ⟨rfl, T2 _ _ hr'⟩
  · obtain rfl := kj 3 (by omega) e
    have F : ¬ (c = 0 ∧ 0 < rdX S (nI a) (nI b)) → ∀ b' m', post 0 b' m' := h0
    have T : (c = 0 ∧ 0 < rdX S (nI a) (nI b)) → ∀ b' m', AgM m' (cutS S (nI a) (nI b)) → post 1 b' m' := h1
    refine brE0 (by omega) (fun zc => x6_areTowns hM ok (bI_br (fun z => ⟨rfl, F (fun w => ?_) _ _⟩) (fun z => ?_))) (fun zc => ⟨rfl, F (fun w => by omega) _ _⟩)
    · have := rdX_both w.2
      unfold bothT at this
      rw [this] at z; exact nomatch z
    · have z' := Bool.and_eq_true_iff.mp z
      have za := z'.1
      have zb := z'.2
      rw [lt] at za
      rw [lt2] at zb
      have haT := of_decide_eq_true za
      have hbT := of_decide_eq_true zb
      have r9 := ok.r99 (a := a) (b := b) ha hb
      have okk := okc
      rw [rdX_n haT hbT hT] at F T
      refine x6_length hM ha hb (brN0 (by omega) (fun y => ⟨rfl, F (fun w => by omega) _ _⟩) (fun y => ?_))
      have T2 := T ⟨zc, y⟩
      have ok2 : OK (cutS S (nI a) (nI b)) := OK_cutS ok _ _
      unfold cutS at T2 ok2
      rw [rdX_n haT hbT hT, if_pos y, NN_nI (by omega), NN_nI (by omega)] at T2 ok2
      exact x6_tearOn hM ha hb ok2 (fun r' hr' => brF (nI_nle y (by omega)) ⟨rfl, T2 _ _ hr'⟩)
  · obtain rfl := kj 4 (by omega) e
    have F : ¬ (isNote S (nI a) (nI b) (nI c) = true) → ∀ b' m', post 0 b' m' := h0
    have T : (isNote S (nI a) (nI b) (nI c) = true) → ∀ b' m', AgM m' (noteS S a b c 1) → post 1 b' m' := h1
    rw [isNote_n (by omega) (by omega) hc] at F T
    refine x6_isTown hM ok (bI_br (fun za => ?_) (fun za => x6_isTrait (bI_br (fun zb => ?_) (fun zb => brT rfl ?_))))
    · rw [lt] at za
      have := of_decide_eq_false za
      exact ⟨rfl, F (fun w => by omega) _ _⟩
    · rw [lb] at zb
      have := of_decide_eq_false zb
      exact ⟨rfl, F (fun w => by omega) _ _⟩
    · rw [lt] at za
      rw [lb] at zb
      have haT := of_decide_eq_true za
      have hb6 := of_decide_eq_true zb
      exact x6_seeOn hM ok haT hb6 hc (fun r' hr' => brF (bI_nn _) ⟨rfl, T ⟨haT, hb6⟩ _ _ hr'⟩)
  · obtain rfl := kj 5 (by omega) e
    have F : ¬ (isNote S (nI a) (nI b) (nI c) = true) → ∀ b' m', post 0 b' m' := h0
    have T : (isNote S (nI a) (nI b) (nI c) = true) → ∀ b' m', AgM m' (noteS S a b c 0) → post 1 b' m' := h1
    rw [isNote_n (by omega) (by omega) hc] at F T
    refine x6_isTown hM ok (bI_br (fun za => ?_) (fun za => x6_isTrait (bI_br (fun zb => ?_) (fun zb => brF (by decide) ?_))))
    · rw [lt] at za
      have := of_decide_eq_false za
      exact ⟨rfl, F (fun w => by omega) _ _⟩
    · rw [lb] at zb
      have := of_decide_eq_false zb
      exact ⟨rfl, F (fun w => by omega) _ _⟩
    · rw [lt] at za
      rw [lb] at zb
      have haT := of_decide_eq_true za
      have hb6 := of_decide_eq_true zb
      exact x6_seeOn hM ok haT hb6 hc (fun r' hr' => brF (bI_nn _) ⟨rfl, T ⟨haT, hb6⟩ _ _ hr'⟩)
  · obtain rfl := kj 6 (by omega) e
    have F : ¬ (c = 0 ∧ isPair S (nI a) (nI b) = true) → ∀ b' m', post 0 b' m' := h0
    have T : (c = 0 ∧ isPair S (nI a) (nI b) = true) → ∀ b' m', AgM m' (dropS S a b) → post 1 b' m' := h1
    rw [isPair_n (by omega) (by omega)] at F T
    refine brE0 (by omega) (fun zc => x6_isTown hM ok (bI_br (fun za => ?_) (fun za => x6_isTrait (bI_br (fun zb => ?_) (fun zb => ?_))))) (fun zc => ⟨rfl, F (fun w => by omega) _ _⟩)
    · rw [lt] at za
      have := of_decide_eq_false za
      exact ⟨rfl, F (fun w => by omega) _ _⟩
    · rw [lb] at zb
      have := of_decide_eq_false zb
      exact ⟨rfl, F (fun w => by omega) _ _⟩
    · rw [lt] at za
      rw [lb] at zb
      have haT := of_decide_eq_true za
      have hb6 := of_decide_eq_true zb
      exact x6_forgetOn hM ok ha hb6 (fun r' hr' => brF (bI_nn _) ⟨rfl, T ⟨zc, haT, hb6⟩ _ _ hr'⟩)
  · obtain rfl := kj 7 (by omega) e
    have F : ¬ (b = 0 ∧ c ≤ 99 ∧ a < 6 ∧ upT (feI (FL S a)) (nI c)) → ∀ b' m', post 0 b' m' := h0
    have T : (b = 0 ∧ c ≤ 99 ∧ a < 6 ∧ upT (feI (FL S a)) (nI c)) → ∀ b' m', AgM m' S → post 1 b' m' := h1
    refine x6_isTrait (bI_br (fun za => ?_) (fun za => ?_))
    · rw [la] at za
      have na := of_decide_eq_false za
      unfold P_X6_command_b288 P_X6_command_b330 P_X6_command_b331
      rw [show (100 : Int32) = nI 100 from rfl, i_leN (a := 100) (b := c) (by omega) (by omega)]
      refine x6_findLeast hM ok (x := 0) (by omega) (fun w => brE0 (by omega) (fun zb => br (fun z => ⟨rfl, F (fun w => by omega) _ _⟩) (fun z => x6_isTrait ?_)) (fun zb => ⟨rfl, F (fun w => by omega) _ _⟩))
      rw [la, za]
      exact brT rfl ⟨rfl, F (fun w => by omega) _ _⟩
    · rw [la] at za
      have ha6 := of_decide_eq_true za
      unfold P_X6_command_b288 P_X6_command_b330 P_X6_command_b331
      rw [show (100 : Int32) = nI 100 from rfl, i_leN (a := 100) (b := c) (by omega) (by omega)]
      refine x6_findLeast hM ok ha6 (fun w => brE0 (by omega) (fun zb => br (fun z => ⟨rfl, F (fun w => by omega) _ _⟩) (fun z => x6_isTrait ?_)) (fun zb => ⟨rfl, F (fun w => by omega) _ _⟩))
      rw [la, za, BM1, show c % 100 = c by omega]
      exact brF f10 (br (fun u => ⟨rfl, F (fun w => w.2.2.2.1 u) _ _⟩) (fun u => br (fun v => ⟨rfl, F (fun w => w.2.2.2.2 v) _ _⟩) (fun v => ⟨rfl, T ⟨zb, by omega, ha6, u, v⟩ _ _ hM⟩)))
  · obtain rfl := kj 8 (by omega) e
    have F : ¬ (a = 0 ∧ b = 0 ∧ c ≤ 99 ∧ ¬ nI c < nI (allN S)) → ∀ b' m', post 0 b' m' := h0
    have T : (a = 0 ∧ b = 0 ∧ c ≤ 99 ∧ ¬ nI c < nI (allN S)) → ∀ b' m', AgM m' S → post 1 b' m' := h1
    rw [nI_add]
    refine brE0 (by omega) (fun zb => br (fun z => ⟨rfl, F (fun w => by omega) _ _⟩) (fun z => ?_)) (fun zb => ⟨rfl, F (fun w => by omega) _ _⟩)
    rw [show c % 100 = c by omega]
    exact x6_inventionsInAll hM ok (fun b' => br (fun u => ⟨rfl, F (fun w => w.2.2.2 u) _ _⟩) (fun u => ⟨rfl, T ⟨by omega, by omega, by omega, u⟩ _ _ hM⟩))
  · obtain rfl := kj 9 (by omega) e
    have F : ¬ (a < S 0 ∧ b < 6 ∧ upT (sinceI S a b) (nI c)) → ∀ b' m', post 0 b' m' := h0
    have T : (a < S 0 ∧ b < 6 ∧ upT (sinceI S a b) (nI c)) → ∀ b' m', AgM m' S → post 1 b' m' := h1
    refine x6_isTown hM ok (bI_br (fun za => ?_) (fun za => x6_isTrait (bI_br (fun zb => ?_) (fun zb => ?_))))
    · rw [lt] at za
      have := of_decide_eq_false za
      exact ⟨rfl, F (fun w => by omega) _ _⟩
    · rw [lb] at zb
      have := of_decide_eq_false zb
      exact ⟨rfl, F (fun w => by omega) _ _⟩
    · rw [lt] at za
      rw [lb] at zb
      have haT := of_decide_eq_true za
      have hb6 := of_decide_eq_true zb
      exact x6_sinceOn hM ok haT hb6 (fun b' => br (fun u => ⟨rfl, F (fun w => w.2.2.1 u) _ _⟩) (fun u => x6_sinceOn hM ok haT hb6 (fun b2 => br (fun v => ⟨rfl, F (fun w => w.2.2.2 v) _ _⟩) (fun v => ⟨rfl, T ⟨haT, hb6, u, v⟩ _ _ hM⟩))))
  · have k0 : k = 0 := by
      have n : ∀ j, ¬ nI k = nI j → ¬ k = j := fun j hj q => hj (by rw [q])
      have n1 := n 1 e1
      have n2 := n 2 e2
      have n3 := n 3 e3
      have n4 := n 4 e4
      have n5 := n 5 e5
      have n6 := n 6 e6
      have n7 := n 7 e7
      have n8 := n 8 e8
      have n9 := n 9 e9
      omega
    subst k0
    exact h0 (fun w => w) _ _
