/-! the model: its plain acts -/
def bothT (S : Nat → Nat) (x y : Int32) : Bool := isT (S 0) x && isT (S 0) y
theorem x6_road {o : Int32} {r : Nat → Int32} {S : Nat → Nat} (hM : AgM r S) (ok : OK S) {x y : Int32} {post : Int32 → Int32 → Prop} (h1 : bothT S x y = false → post 0 1) (h0 : bothT S x y = true → post (cR (rdX S x y)) 0) : P_X6_road o r x y post := by
  have hT := ok.T
  unfold P_X6_road P_X6_road_b18 P_X6_road_b51
  apply x6_areTowns hM ok; refine bI_br (fun e => x6_no1 (brF f10 (h1 e))) (fun e => x6_ok (brT rfl ?_))
  have h := h0 e
  have e' := Bool.and_eq_true_iff.mp e
  obtain ⟨a, ha, rfl⟩ := isT_ex (by omega) e'.1
  obtain ⟨b, hb, rfl⟩ := isT_ex (by omega) e'.2
  rw [rdX_n ha hb hT] at h
  have r9 := ok.r99 (a := a) (b := b) (by omega) (by omega)
  apply x6_length hM (by omega) (by omega)
  refine brE0 (by omega) (fun z => by rw [z] at h; exact h) (fun z => ?_)
  apply x6_length hM (by omega) (by omega)
  rw [cR_pos z] at h; exact h
theorem x6_neighbor {o : Int32} {r : Nat → Int32} {S : Nat → Nat} (hM : AgM r S) (ok : OK S) {x y : Int32} {post : Int32 → Int32 → Prop} (h1 : isT (S 0) x = false → post 0 1) (h2 : isT (S 0) x = true → y < 0 → post 0 2)
    (h0 : isT (S 0) x = true → ∀ k, k < 2 ^ 31 → y = nI k → post (besI (besF S (NN x) k (S 0))) 0) : P_X6_neighbor o r x y post := by
  have hT := ok.T
  unfold P_X6_neighbor P_X6_neighbor_b25
  apply x6_isTown hM ok; refine bI_br (fun e => x6_no1 (brF f10 (h1 e))) (fun e => br (fun q => x6_ok (brT rfl ?_)) (fun q => x6_no2 (brF f10 (h2 e ?_))))
  · obtain ⟨k, hk, rfl⟩ := nI_of (x := y) (by rw [i_lt]; rw [i_le] at q; omega)
    have h := h0 e k hk rfl
    obtain ⟨a, ha, rfl⟩ := isT_ex (by omega) e
    rw [NN_nI (by omega)] at h
    let f : Nat → Nat := fun b => b1 (0 < rd S a b)
    have key := forN (fun n i => besF S a k i = none → sumTo i f ≤ k → P_X6_neighbor_l38 o r (nI a) (nI k) post n 0 (nI (k - sumTo i f)) (nI i)) (S 0) ?_ ?_ 0 (Nat.zero_le _)
    · obtain ⟨n, hn⟩ := key; exact ⟨n, hn rfl (Nat.zero_le _)⟩
    · intro n hno hle
      show P_X6_neighbor_b38 _ _ _ _ _ _ _ _ _
      unfold P_X6_neighbor_b38
      rw [m0 hM]
      refine brT (nI_le (Nat.le_refl _) (by omega)) ?_
      rw [hno] at h; exact h
    · intro n i hi hv hno hle
      show P_X6_neighbor_b38 _ _ _ _ _ _ _ _ _
      unfold P_X6_neighbor_b38 P_X6_neighbor_b72
      rw [m0 hM]
      refine brF (nI_ge hi (by omega)) ?_
      have r9 := ok.r99 (a := a) (b := i) (by omega) (by omega)
      apply x6_length hM (by omega) (by omega)
      refine brN0 (by omega) (fun z => fa1 ?_) (fun z => brE0 (by omega) (fun q => ?_) (fun q => fae (fa1 ?_)))
      · have E : sumTo (i + 1) f = sumTo i f := by show _ + b1 (decide (0 < rd S a i)) = _; rw [z]; rfl
        rw [E] at hv
        exact hv (besF_no hno (fun w => by omega)) hle
      · rw [besF_up (besF_hit hno z (show sumTo i f = k by omega)) (S 0) hi] at h; exact h
      · have E : sumTo (i + 1) f = sumTo i f + 1 := by show _ + b1 (decide (0 < rd S a i)) = _; rw [decide_eq_true z]; rfl
        rw [E] at hv
        have := hv (besF_no hno (fun w => by have : sumTo i f = k := w.2; omega)) (by omega)
        rw [show nI (k - sumTo i f) + (-1 : Int32) = nI (k - (sumTo i f + 1)) by
          rw [show k - sumTo i f = (k - (sumTo i f + 1)) + 1 by omega, ← Int32.sub_eq_add_neg, nI_pred]]
        exact this
  · rw [i_lt]; rw [i_le] at q; omega
theorem x6_report {o : Int32} {r : Nat → Int32} {S : Nat → Nat} (hM : AgM r S) (ok : OK S) {x t has : Int32} {post : Int32 → Int32 → Prop} (h1 : isT (S 0) x = false → post 0 1) (h2 : isT (S 0) x = true → isT 6 t = false → post 0 2)
    (h0 : isT (S 0) x = true → isT 6 t = true → post (cY (yrX S x t has)) 0) : P_X6_report o r x t has post := by
  have hT := ok.T
  unfold P_X6_report P_X6_report_b28 P_X6_report_b52
  apply x6_isTown hM ok; refine bI_br (fun e => x6_no1 (brF f10 (h1 e))) (fun e => ?_)
  apply x6_isTrait; refine bI_br (fun f => x6_no2 (brF f10 (h2 e f))) (fun f => x6_ok (brT rfl ?_))
  have h := h0 e f
  unfold yrX at h
  rw [if_pos ⟨e, f⟩] at h
  obtain ⟨a, ha, rfl⟩ := isT_ex (by omega) e
  obtain ⟨b, hb, rfl⟩ := isT_ex (by omega) f
  rw [NN_nI (by omega), NN_nI (by omega)] at h
  obtain ⟨e1, e2⟩ := mxh (a := a) (b := b) (by omega) (by omega)
  obtain ⟨e3, e4⟩ := mxn (a := a) (b := b) (by omega) (by omega)
  have m1 : ∀ n, n < 2 ^ 31 → nI n - 1 = cY n := fun n hn => by rw [← Int32.toInt_inj, nI_m1 hn, cY_toInt hn]
  have y1 : S (101 + 6 * a + b) ≤ 1000 := ok.h1k (by omega) hb
  have y0 : S (161 + 6 * a + b) ≤ 1000 := ok.n1k (by omega) hb
  unfold P_X6_at
  refine br (fun q => ⟨e4, ?_⟩) (fun q => ⟨e2, ?_⟩)
  · rw [if_pos q] at h
    rw [e3, hM _ (by omega), m1 _ (by omega)]; exact h
  · rw [if_neg q] at h
    rw [e1, hM _ (by omega), m1 _ (by omega)]; exact h
section
variable {o : Int32} {r diary : Nat → Int32} {S : Nat → Nat} {n : Nat} {PS : Nat → Nat → Nat}
theorem x6_found (hM : AgM r S) (ok : OK S) (hn : n ≤ 14) (hD : AgD diary n PS) {post : Int32 → Int32 → Int32 → (Nat → Int32) → (Nat → Int32) → Prop} (h1 : S 0 = 10 → post 0 1 (nI n) r diary)
    (h0 : S 0 < 10 → ∀ r' d', AgM r' (townS S) → AgD d' (pushN n) (pushP n PS S) → post (nI (S 0)) 0 (nI (pushN n)) r' d') : P_X6_found o (nI n) r diary post := by
  have hT := ok.T
  unfold P_X6_found P_X6_found_b17
  rw [m0 hM, show (10 : Int32) = nI 10 from rfl, i_leN (by omega) (by omega)]
  refine br (fun q => x6_no1 (brF f10 (h1 (by omega)))) (fun q => x6_ok (brT rfl (x6_remember hM hn hD (fun d' hd' => ?_))))
  have A : AgM (upd r (0 : Int32).toNatClampNeg (nI (S 0) + 1)) (townS S) := by rw [nI_p1]; exact AgM_upd (k := 0) hM rfl
  have := h0 (by omega) _ d' A hd'
  rw [m0 A, show townS S 0 = S 0 + 1 from setS_eq, nI_pred]; exact this
theorem x6_lay (hM : AgM r S) (ok : OK S) (hn : n ≤ 14) (hD : AgD diary n PS) {x y len : Int32} {post : Int32 → Int32 → Int32 → (Nat → Int32) → (Nat → Int32) → Prop} (h1 : ¬ whyL S x y len = 0 → post 0 (whyL S x y len) (nI n) r diary)
    (h0 : canJ S x y len = true → ∀ r' d', AgM r' (joinS S x y len) → AgD d' (pushN n) (pushP n PS S) → post (nI (cnt (joinS S x y len))) 0 (nI (pushN n)) r' d') : P_X6_lay o (nI n) r diary x y len post := by
  have hT := ok.T
  unfold P_X6_lay
  apply x6_whyNotLay hM ok
  by_cases z : canJ S x y len = true
  · have ok' := OK_joinS ok z
    have h := h0 z
    have q := of_decide_eq_true z
    rw [show whyL S x y len = 0 by unfold whyL; rw [if_pos ⟨q.1, q.2.1⟩, if_neg (fun w => w.elim q.2.2.1 (fun w => by rw [q.2.2.2.1] at w; exact nomatch w)), if_pos z]]
    refine x6_ok (brT rfl (x6_remember hM hn hD (fun d' hd' => ?_)))
    obtain ⟨a, b, m, ha, hb, hab, k1, k2, rfl, rfl, rfl, _⟩ := canJ_out ok z
    rw [joinS_n (by omega) (by omega) (by omega)] at h ok'
    exact x6_layOn hM (by omega) (by omega) ok' (fun r' hr' => h r' d' hr' hd')
  · have nz : whyL S x y len = 1 ∨ whyL S x y len = 2 ∨ whyL S x y len = 3 := by
      unfold whyL
      split
      · split
        · right; left; rfl
        · right; right; rfl
      · left; rfl
    rcases nz with e | e | e <;> rw [e] at h1 ⊢
    · exact x6_no1 (brF f10 (h1 (by decide)))
    · exact x6_no2 (brF f10 (h1 (by decide)))
    · exact x6_no3 (brF f10 (h1 (by decide)))
theorem x6_tear (hM : AgM r S) (ok : OK S) (hn : n ≤ 14) (hD : AgD diary n PS) {x y : Int32} {post : Int32 → Int32 → Int32 → (Nat → Int32) → (Nat → Int32) → Prop} (h1 : bothT S x y = false → post 0 1 (nI n) r diary) (h2 : bothT S x y = true → rdX S x y = 0 → post 0 2 (nI n) r diary)
    (h0 : 0 < rdX S x y → ∀ r' d', AgM r' (cutS S x y) → AgD d' (pushN n) (pushP n PS S) → post (cR (rdX S x y)) 0 (nI (pushN n)) r' d') : P_X6_tear o (nI n) r diary x y post := by
  have hT := ok.T
  unfold P_X6_tear P_X6_tear_b34
  apply x6_areTowns hM ok; refine bI_br (fun e => x6_no1 (brF f10 (h1 e))) (fun e => ?_)
  have e' := Bool.and_eq_true_iff.mp e
  have h2' := h2 e
  have okc := OK_cutS ok x y
  unfold cutS at h0 okc
  obtain ⟨a, ha, rfl⟩ := isT_ex (by omega) e'.1
  obtain ⟨b, hb, rfl⟩ := isT_ex (by omega) e'.2
  rw [rdX_n ha hb hT] at h0 h2' okc
  rw [NN_nI (by omega), NN_nI (by omega)] at h0 okc
  have r9 := ok.r99 (a := a) (b := b) (by omega) (by omega)
  apply x6_length hM (by omega) (by omega)
  refine brE0 (by omega) (fun z => x6_no2 (brF f10 (h2' z))) (fun z => x6_ok (brT rfl (x6_remember hM hn hD (fun d' hd' => ?_))))
  rw [if_pos z] at h0 okc
  rw [cR_pos z] at h0
  exact x6_tearOn hM (by omega) (by omega) okc (fun r' hr' => h0 z r' d' hr' hd')
theorem x6_see (hM : AgM r S) (ok : OK S) (hn : n ≤ 14) (hD : AgD diary n PS) {x t y has : Int32} {post : Int32 → Int32 → Int32 → (Nat → Int32) → (Nat → Int32) → Prop} (h1 : isT (S 0) x = false → post 0 1 (nI n) r diary) (h2 : isT (S 0) x = true → isNote S x t y = false → post 0 2 (nI n) r diary)
    (h0 : isNote S x t y = true → ∀ r' d', AgM r' (noteS S (NN x) (NN t) (NN y) has) → AgD d' (pushN n) (pushP n PS S) → post (bI (noteN S (NN x) (NN t) (NN y) has)) 0 (nI (pushN n)) r' d') : P_X6_see o (nI n) r diary x t y has post := by
  have hT := ok.T
  unfold P_X6_see P_X6_see_b34 P_X6_see_b35
  apply x6_isTown hM ok; refine bI_br (fun e => x6_no1 (brF f10 (h1 e))) (fun e => ?_)
  apply x6_isTrait; refine bI_br (fun f => x6_no2 (brF f10 (h2 e (decide_eq_false fun q => by rw [f] at q; exact nomatch q.2.1)))) (fun f => ?_)
  apply x6_isYear; refine bI_br (fun g => x6_no2 (brF f10 (h2 e (decide_eq_false fun q => by rw [g] at q; exact nomatch q.2.2)))) (fun g => x6_ok (brT rfl (x6_remember hM hn hD (fun d' hd' => ?_))))
  have h := h0 (decide_eq_true ⟨e, f, g⟩)
  obtain ⟨a, ha, rfl⟩ := isT_ex (by omega) e
  obtain ⟨b, hb, rfl⟩ := isT_ex (by omega) f
  obtain ⟨m, hm, rfl⟩ := isYr_ex g
  rw [NN_nI (by omega), NN_nI (by omega), NN_nI (by omega)] at h
  exact x6_seeOn hM ok ha hb hm (fun r' hr' => h r' d' hr' hd')
theorem x6_forget (hM : AgM r S) (ok : OK S) (hn : n ≤ 14) (hD : AgD diary n PS) {x t : Int32} {post : Int32 → Int32 → Int32 → (Nat → Int32) → (Nat → Int32) → Prop} (h1 : isT (S 0) x = false → post 0 1 (nI n) r diary) (h2 : isT (S 0) x = true → isT 6 t = false → post 0 2 (nI n) r diary)
    (h0 : isPair S x t = true → ∀ r' d', AgM r' (dropS S (NN x) (NN t)) → AgD d' (pushN n) (pushP n PS S) → post (bI (repd S (NN x) (NN t))) 0 (nI (pushN n)) r' d') : P_X6_forget o (nI n) r diary x t post := by
  have hT := ok.T
  unfold P_X6_forget P_X6_forget_b28
  apply x6_isTown hM ok; refine bI_br (fun e => x6_no1 (brF f10 (h1 e))) (fun e => ?_)
  apply x6_isTrait; refine bI_br (fun f => x6_no2 (brF f10 (h2 e f))) (fun f => x6_ok (brT rfl (x6_remember hM hn hD (fun d' hd' => ?_))))
  have h := h0 (decide_eq_true ⟨e, f⟩)
  obtain ⟨a, ha, rfl⟩ := isT_ex (by omega) e
  obtain ⟨b, hb, rfl⟩ := isT_ex (by omega) f
  rw [NN_nI (by omega), NN_nI (by omega)] at h
  exact x6_forgetOn hM ok (by omega) hb (fun r' hr' => h r' d' hr' hd')
theorem x6_undo (hn : n ≤ 14) (hD : AgD diary n PS) {post : Int32 → Int32 → Int32 → (Nat → Int32) → Prop} (h1 : n = 0 → post 0 1 (nI n) r)
    (h0 : 0 < n → ∀ r', AgM r' (PS (n - 1)) → post (nI (n - 1)) 0 (nI (n - 1)) r') : P_X6_undo o (nI n) r diary post := by
  unfold P_X6_undo P_X6_undo_b13
  refine brE0 (by omega) (fun z => x6_no1 (brF f10 (h1 z))) (fun z => x6_ok (brT rfl ?_))
  rw [show nI n - 1 = nI (n - 1) by rw [show n = (n - 1) + 1 by omega, nI_pred]; rfl]
  refine fae (x6_copy (o1 := 221 * (n - 1)) (o2 := 0) (by rw [show (221 : Int32) = nI 221 from rfl, pk_mul]) rfl (by omega) (by omega) (by omega) (by omega) (fun w hw1 _ => h0 z w (fun k hk => ?_)))
  have := hw1 k hk
  rw [Nat.zero_add] at this
  rw [this]; exact hD (n - 1) (by omega) k hk
end
theorem x6_countPairs0 {r : Nat → Int32} {S : Nat → Nat} (hM : AgM r S) (ok : OK S) {w : Int32} {F : Nat → Nat → Bool} (hF : ∀ a t, a < S 0 → t < 6 → F a t = if w = 0 then repd S a t else cond S a t) {post : Int32 → Prop} (h : post (nI (sumTo (S 0) (fun a => sumTo 6 (fun t => b1 (F a t)))))) : P_X6_countPairs r w post := by
  have hT := ok.T
  unfold P_X6_countPairs
  let G : Nat → Nat := fun a => sumTo 6 (fun t => b1 (F a t))
  refine forN (fun n i => P_X6_countPairs_l4 r w post n (nI (sumTo i G)) (nI i)) (S 0) ?_ ?_ 0 (Nat.zero_le _)
  · intro n
    show P_X6_countPairs_b4 _ _ _ _ _ _
    unfold P_X6_countPairs_b4
    rw [m0 hM]
    exact brT (nI_le (Nat.le_refl _) (by omega)) h
  · intro n i hi hv
    show P_X6_countPairs_b4 _ _ _ _ _ _
    unfold P_X6_countPairs_b4
    rw [m0 hM]
    refine brF (nI_ge hi (by omega)) ?_
    refine forN (fun m j => P_X6_countPairs_l17 r w post (P_X6_countPairs_l4 r w post n) m (nI (sumTo i G + sumTo j (fun t => b1 (F i t)))) (nI i) (nI j)) 6 ?_ ?_ 0 (by omega)
    · intro m
      show P_X6_countPairs_b17 _ _ _ _ _ _ _ _
      unfold P_X6_countPairs_b17
      exact brT (nI_le (a := 6) (Nat.le_refl _) (by omega)) (fa1 hv)
    · intro m j hj hw
      show P_X6_countPairs_b17 _ _ _ _ _ _ _ _
      have y1 : S (101 + 6 * i + j) ≤ 1000 := ok.h1k (by omega) hj
      have y0 : S (161 + 6 * i + j) ≤ 1000 := ok.n1k (by omega) hj
      obtain ⟨e1, e2⟩ := mxh (a := i) (b := j) (by omega) hj
      obtain ⟨e3, e4⟩ := mxn (a := i) (b := j) (by omega) hj
      have yes : F i j = true → ∀ x : Int32, x = nI (sumTo i G + sumTo j (fun t => b1 (F i t))) + 1 → ∀ y : Int32, y = nI j + 1 → P_X6_countPairs_l17 r w post (P_X6_countPairs_l4 r w post n) m x (nI i) y := fun e => fa1 (fa1 (by
        rw [show sumTo (j + 1) (fun t => b1 (F i t)) = sumTo j (fun t => b1 (F i t)) + 1 by show _ + b1 (F i j) = _; rw [e]; rfl, ← Nat.add_assoc] at hw; exact hw))
      have no : F i j = false → ∀ x : Int32, x = nI (sumTo i G + sumTo j (fun t => b1 (F i t))) + 0 → ∀ y : Int32, y = nI j + 1 → P_X6_countPairs_l17 r w post (P_X6_countPairs_l4 r w post n) m x (nI i) y := fun e => fa2 (b := 0) (fa1 (by
        rw [show sumTo (j + 1) (fun t => b1 (F i t)) = sumTo j (fun t => b1 (F i t)) by show _ + b1 (F i j) = _; rw [e]; rfl] at hw; exact hw))
      have hf := hF i j hi hj
      unfold P_X6_countPairs_b17 P_X6_countPairs_b62 P_X6_countPairs_b90 P_X6_countPairs_b94 P_X6_countPairs_b95 P_X6_at
      dsimp only
      rw [e1, e3, hM (101 + 6 * i + j) (by omega), hM (161 + 6 * i + j) (by omega), nI_add]
      have ag : (P_X6_areAgainst 221 r (nI i) (nI j) (fun r_5 => (r_5 = 0 → ∀ x : Int32, x = nI (sumTo i G + sumTo j (fun t => b1 (F i t))) + 0 → ∀ y : Int32, y = nI j + 1 → P_X6_countPairs_l17 r w post (P_X6_countPairs_l4 r w post n) m x (nI i) y) ∧ (¬ r_5 = 0 → ∀ x : Int32, x = nI (sumTo i G + sumTo j (fun t => b1 (F i t))) + 1 → ∀ y : Int32, y = nI j + 1 → P_X6_countPairs_l17 r w post (P_X6_countPairs_l4 r w post n) m x (nI i) y))) ∨ w = 0 := by
        by_cases q : w = 0
        · exact Or.inr q
        · rw [if_neg q] at hf
          exact Or.inl (x6_areAgainst hM ok (by omega) hj (bI_br (fun e => no (by rw [hf, e])) (fun e => yes (by rw [hf, e]))))
      refine brF (nI_ge (b := 6) hj (by omega)) ⟨e2, e4, brN0 (by omega) (fun z => br (fun q => brT rfl (no ?_)) (fun q => ag.resolve_right q)) (fun z => br (fun q => brF f10 (yes ?_)) (fun q => ag.resolve_right q))⟩
      · rw [hf, if_pos q]; exact decide_eq_false (by show ¬ (0 < S (101 + 6 * i + j) ∨ 0 < S (161 + 6 * i + j)); omega)
      · rw [hf, if_pos q]; exact decide_eq_true (by show (0 < S (101 + 6 * i + j) ∨ 0 < S (161 + 6 * i + j)); omega)
theorem x6_countRep {r : Nat → Int32} {S : Nat → Nat} (hM : AgM r S) (ok : OK S) {post : Int32 → Prop} (h : post (nI (repN S))) : P_X6_countPairs r 0 post :=
  x6_countPairs0 hM ok (F := repd S) (fun a t _ _ => (if_pos rfl).symm) (by
    rw [sum2 (fun a t => b1 (repd S a t)) ok.T (fun a t h1 h2 h3 => by
      have := ok.hz h1 h3 h2
      rw [show repd S a t = false from decide_eq_false (by omega)]; rfl)]; exact h)
theorem x6_countCon {r : Nat → Int32} {S : Nat → Nat} (hM : AgM r S) (ok : OK S) {post : Int32 → Prop} (h : post (nI (conN S))) : P_X6_countPairs r 1 post :=
  x6_countPairs0 hM ok (F := cond S) (fun a t _ _ => (if_neg f10).symm) (by
    rw [sum2 (fun a t => b1 (cond S a t)) ok.T (fun a t h1 h2 h3 => by
      have := ok.hz h1 h3 h2
      rw [show cond S a t = false from decide_eq_false (by omega)]; rfl)]; exact h)
