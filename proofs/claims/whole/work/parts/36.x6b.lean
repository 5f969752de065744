/-! the model: its diary, what changes its land, what it answers -/
theorem x6_copy {n0 n2 o1 o2 : Nat} {v0 v2 : Nat → Int32} {y1 y2 : Int32} (hy1 : y1 = nI o1) (hy2 : y2 = nI o2) (h1 : o1 + 221 ≤ n0) (h2 : o2 + 221 ≤ n2) (hn0 : n0 < 2 ^ 30) (hn2 : n2 < 2 ^ 30) {post : (Nat → Int32) → Prop}
    (h : ∀ w, (∀ k, k < 221 → w (o2 + k) = v0 (o1 + k)) → (∀ j, (j < o2 ∨ o2 + 221 ≤ j) → w j = v2 j) → post w) : P_X6_copyState n0 n2 v0 v2 y1 y2 post := by
  subst hy1 hy2
  unfold P_X6_copyState
  let W : Nat → Nat → Int32 := fun i j => if o2 ≤ j ∧ j < o2 + i then v0 (o1 + (j - o2)) else v2 j
  have key := forN (fun m i => P_X6_copyState_l3 n0 n2 v0 v2 (nI o1) (nI o2) post m (W i) (nI i)) 221 ?_ ?_ 0 (by omega)
  · obtain ⟨m, hm⟩ := key
    rw [show W 0 = v2 from funext fun k => if_neg (by omega)] at hm
    exact ⟨m, hm⟩
  · intro m
    show P_X6_copyState_b3 _ _ _ _ _ _ _ _ _ _
    unfold P_X6_copyState_b3
    refine brT (nI_le (a := 221) (Nat.le_refl _) (by omega)) (h _ (fun k hk => ?_) (fun j hj => if_neg (by omega)))
    show (if o2 ≤ o2 + k ∧ o2 + k < o2 + 221 then v0 (o1 + (o2 + k - o2)) else _) = _
    rw [if_pos ⟨by omega, by omega⟩, show o1 + (o2 + k - o2) = o1 + k by omega]
  · intro m i hi hv
    show P_X6_copyState_b3 _ _ _ _ _ _ _ _ _ _
    unfold P_X6_copyState_b3
    rw [nI_add, nI_add, nI_clamp (by omega), nI_clamp (by omega)]
    refine brF (nI_ge (b := 221) hi (by omega)) ⟨nI_in (by omega) (by omega), nI_in (by omega) (by omega), fa1 ?_⟩
    rw [show upd (W i) (o2 + i) (v0 (o1 + i)) = W (i + 1) from funext fun j => by
      show (if j = o2 + i then v0 (o1 + i) else if o2 ≤ j ∧ j < o2 + i then v0 (o1 + (j - o2)) else v2 j) = if o2 ≤ j ∧ j < o2 + (i + 1) then v0 (o1 + (j - o2)) else v2 j
      by_cases e : j = o2 + i
      · rw [if_pos e, if_pos (by omega), show j - o2 = i by omega]
      · rw [if_neg e]
        by_cases g : o2 ≤ j ∧ j < o2 + i
        · rw [if_pos g, if_pos (by omega)]
        · rw [if_neg g, if_neg (by omega)]]
    exact hv
/-- the past: the states that stand, the oldest first -/
def pushN (n : Nat) : Nat := if n = 14 then 14 else n + 1
def pushP (n : Nat) (PS : Nat → Nat → Nat) (S : Nat → Nat) : Nat → Nat → Nat := if n = 14 then fun j => if j = 13 then S else PS (j + 1) else fun j => if j = n then S else PS j
def AgD (diary : Nat → Int32) (n : Nat) (PS : Nat → Nat → Nat) : Prop := ∀ j, j < n → ∀ k, k < 221 → diary (221 * j + k) = nI (PS j k)
theorem pushN_le {n : Nat} (h : n ≤ 14) : pushN n ≤ 14 := by unfold pushN; split <;> omega
theorem push_all {n : Nat} {PS : Nat → Nat → Nat} {S : Nat → Nat} {P : (Nat → Nat) → Prop} (h : ∀ j, j < n → P (PS j)) (hS : P S) : ∀ j, j < pushN n → P (pushP n PS S j) := by
  intro j hj
  unfold pushN at hj
  unfold pushP
  by_cases e : n = 14
  · rw [if_pos e] at hj
    rw [if_pos e]
    show P (if j = 13 then S else PS (j + 1))
    by_cases g : j = 13
    · rw [if_pos g]; exact hS
    · rw [if_neg g]; exact h _ (by omega)
  · rw [if_neg e] at hj
    rw [if_neg e]
    show P (if j = n then S else PS j)
    by_cases g : j = n
    · rw [if_pos g]; exact hS
    · rw [if_neg g]; exact h _ (by omega)
theorem x6_remember {r diary : Nat → Int32} {S : Nat → Nat} {n : Nat} {PS : Nat → Nat → Nat} (hM : AgM r S) (hn : n ≤ 14) (hD : AgD diary n PS) {post : Int32 → (Nat → Int32) → Prop} (h : ∀ d', AgD d' (pushN n) (pushP n PS S) → post (nI (pushN n)) d') : P_X6_remember (nI n) r diary post := by
  unfold P_X6_remember
  rw [show (14 : Int32) = nI 14 from rfl, i_eqN (by omega) (by omega)]
  refine br (fun e => ?_) (fun e => ?_)
  · subst e
    rw [show pushN 14 = 14 from rfl] at h
    let W : Nat → Nat → Int32 := fun i j => if j < i then diary (j + 221) else diary j
    have key := forN (fun m i => P_X6_remember_l11 (nI 14) r diary post m (W i) (nI i)) 2873 ?_ ?_ 0 (by omega)
    · obtain ⟨m, hm⟩ := key
      rw [show W 0 = diary from funext fun k => if_neg (by omega)] at hm
      exact ⟨m, hm⟩
    · intro m
      show P_X6_remember_b11 _ _ _ _ _ _ _
      unfold P_X6_remember_b11 P_X6_remember_b50
      refine brT (nI_le (a := 2873) (Nat.le_refl _) (by omega)) (fae (x6_copy (o1 := 0) (o2 := 221 * 13) rfl rfl (by omega) (by omega) (by omega) (by omega) (fun w hw1 hw2 => fae (h w ?_))))
      intro j hj k hk
      show w (221 * j + k) = nI ((if j = 13 then S else PS (j + 1)) k)
      by_cases e : j = 13
      · rw [if_pos e, e, hw1 k hk, Nat.zero_add]; exact hM k hk
      · rw [if_neg e, hw2 _ (by omega)]
        show (if 221 * j + k < 2873 then diary (221 * j + k + 221) else _) = _
        rw [if_pos (by omega), show 221 * j + k + 221 = 221 * (j + 1) + k by omega]
        exact hD (j + 1) (by omega) k hk
    · intro m i hi hv
      show P_X6_remember_b11 _ _ _ _ _ _ _
      unfold P_X6_remember_b11
      rw [show nI i + (221 : Int32) = nI (i + 221) from nI_add i 221, nI_clamp (by omega), nI_clamp (by omega)]
      refine brF (nI_ge (b := 2873) hi (by omega)) ⟨nI_in (by omega) (by omega), nI_in (by omega) (by omega), fa1 ?_⟩
      rw [show upd (W i) i (W i (i + 221)) = W (i + 1) from funext fun j => by
        show (if j = i then (if i + 221 < i then _ else diary (i + 221)) else if j < i then diary (j + 221) else diary j) = if j < i + 1 then diary (j + 221) else diary j
        by_cases e : j = i
        · rw [if_pos e, if_neg (by omega), if_pos (by omega), e]
        · rw [if_neg e]
          by_cases g : j < i
          · rw [if_pos g, if_pos (by omega)]
          · rw [if_neg g, if_neg (by omega)]]
      exact hv
  · have hn' : pushN n = n + 1 := if_neg e
    rw [hn'] at h
    unfold P_X6_remember_b50
    refine x6_copy (o1 := 0) (o2 := 221 * n) rfl (by rw [show (221 : Int32) = nI 221 from rfl, pk_mul]) (by omega) (by omega) (by omega) (by omega) (fun w hw1 hw2 => fa1 (h w ?_))
    intro j hj k hk
    unfold pushP
    rw [if_neg e]
    show w (221 * j + k) = nI ((if j = n then S else PS j) k)
    by_cases g : j = n
    · rw [if_pos g, g, hw1 k hk, Nat.zero_add]; exact hM k hk
    · rw [if_neg g, hw2 _ (by omega)]; exact hD j (by omega) k hk
theorem x6_ok {o : Int32} {post : Int32 → Int32 → Prop} (h : post 0 0) : P_X6_refused o 0 post := by
  unfold P_X6_refused P_X6_refused_b14; exact brT (by decide) ⟨rfl, h⟩
theorem x6_no {o c : Int32} (hc : ¬ c ≤ 0) {post : Int32 → Int32 → Prop} (h : post 1 c) : P_X6_refused o c post := by
  unfold P_X6_refused P_X6_refused_b14; exact brF hc ⟨rfl, h⟩
theorem x6_no1 {o : Int32} {post : Int32 → Int32 → Prop} (h : post 1 1) : P_X6_refused o 1 post := x6_no (by decide) h
theorem x6_no2 {o : Int32} {post : Int32 → Int32 → Prop} (h : post 1 2) : P_X6_refused o 2 post := x6_no (by decide) h
theorem x6_no3 {o : Int32} {post : Int32 → Int32 → Prop} (h : post 1 3) : P_X6_refused o 3 post := x6_no (by decide) h
theorem f10 : ¬ ((1 : Int32) = 0) := by decide
theorem x6_seeOn {r : Nat → Int32} {S : Nat → Nat} (hM : AgM r S) (ok : OK S) {a t y : Nat} (ha : a < S 0) (ht : t < 6) (hy : y < 1000) {has : Int32} {post : Int32 → (Nat → Int32) → Prop}
    (h : ∀ r', AgM r' (noteS S a t y has) → post (bI (noteN S a t y has)) r') : P_X6_seeOn 221 r (nI a) (nI t) (nI y) has post := by
  have hT := ok.T
  have y1 : S (101 + 6 * a + t) ≤ 1000 := ok.h1k (by omega) ht
  have y0 : S (161 + 6 * a + t) ≤ 1000 := ok.n1k (by omega) ht
  obtain ⟨e1, e2⟩ := mxh (a := a) (b := t) (by omega) ht
  obtain ⟨e3, e4⟩ := mxn (a := a) (b := t) (by omega) ht
  unfold P_X6_seeOn P_X6_seeOn_b13 P_X6_seeOn_b56 P_X6_seeOn_b60 P_X6_seeOn_b61 P_X6_seeOn_b81 P_X6_seeOn_b92 P_X6_at
  rw [nI_p1]
  refine br (fun q => fae ?_) (fun q => fae ?_)
  · have F1 : nt S a t < y + 1 → post 1 (upd r (161 + 6 * a + t) (nI (y + 1))) := fun z => by
      have e : noteN S a t y has = true := by unfold noteN; rw [if_pos q]; exact decide_eq_true z
      have := h (upd r (161 + 6 * a + t) (nI (y + 1))) (by unfold noteS noteK; rw [if_pos e, if_pos q]; exact AgM_upd hM rfl)
      rw [e] at this; exact this
    have F0 : ¬ nt S a t < y + 1 → post 0 (upd r (161 + 6 * a + t) (r (161 + 6 * a + t))) := fun z => by
      have e : noteN S a t y has = false := by unfold noteN; rw [if_pos q]; exact decide_eq_false z
      have := h (upd r (161 + 6 * a + t) (r (161 + 6 * a + t))) (by
        unfold noteS; rw [if_neg (by rw [e]; decide)]
        exact AgM_eq hM (fun k hk => by
          show (if k = _ then _ else _) = _
          by_cases w : k = 161 + 6 * a + t
          · rw [if_pos w, w]
          · rw [if_neg w]))
      rw [e] at this; exact this
    rw [e3]
    refine ⟨e4, ?_⟩
    rw [hM (161 + 6 * a + t) (by omega)]
    rw [hM (161 + 6 * a + t) (by omega)] at F0
    refine brE0 (by omega) (fun z => brF f10 ⟨e4, brF f10 (F1 ?_)⟩) (fun z => brT q ⟨e4, ?_⟩)
    · show S (161 + 6 * a + t) < y + 1; omega
    rw [i_leN (by omega) (by omega)]
    exact br (fun w => brT rfl ⟨e4, e4, brT rfl (F0 (by show ¬ S (161 + 6 * a + t) < y + 1; omega))⟩) (fun w => brF f10 ⟨e4, brF f10 (F1 (by show S (161 + 6 * a + t) < y + 1; omega))⟩)
  · have F1 : (hd S a t = 0 ∨ y + 1 < hd S a t) → post 1 (upd r (101 + 6 * a + t) (nI (y + 1))) := fun z => by
      have e : noteN S a t y has = true := by unfold noteN; rw [if_neg q]; exact decide_eq_true z
      have := h (upd r (101 + 6 * a + t) (nI (y + 1))) (by unfold noteS noteK; rw [if_pos e, if_neg q]; exact AgM_upd hM rfl)
      rw [e] at this; exact this
    have F0 : ¬ (hd S a t = 0 ∨ y + 1 < hd S a t) → post 0 (upd r (101 + 6 * a + t) (r (101 + 6 * a + t))) := fun z => by
      have e : noteN S a t y has = false := by unfold noteN; rw [if_neg q]; exact decide_eq_false z
      have := h (upd r (101 + 6 * a + t) (r (101 + 6 * a + t))) (by
        unfold noteS; rw [if_neg (by rw [e]; decide)]
        exact AgM_eq hM (fun k hk => by
          show (if k = _ then _ else _) = _
          by_cases w : k = 101 + 6 * a + t
          · rw [if_pos w, w]
          · rw [if_neg w]))
      rw [e] at this; exact this
    rw [e1]
    refine ⟨e2, ?_⟩
    rw [hM (101 + 6 * a + t) (by omega)]
    rw [hM (101 + 6 * a + t) (by omega)] at F0
    refine brE0 (by omega) (fun z => brF f10 ⟨e2, brF f10 (F1 (Or.inl z))⟩) (fun z => brF q ⟨e2, ?_⟩)
    rw [i_leN (by omega) (by omega)]
    exact br (fun w => brT rfl ⟨e2, e2, brT rfl (F0 (by show ¬ (S (101 + 6 * a + t) = 0 ∨ y + 1 < S (101 + 6 * a + t)); omega))⟩) (fun w => brF f10 ⟨e2, brF f10 (F1 (by show (S (101 + 6 * a + t) = 0 ∨ y + 1 < S (101 + 6 * a + t)); omega))⟩)
theorem x6_forgetOn {r : Nat → Int32} {S : Nat → Nat} (hM : AgM r S) (ok : OK S) {a t : Nat} (ha : a < 10) (ht : t < 6) {post : Int32 → (Nat → Int32) → Prop}
    (h : ∀ r', AgM r' (dropS S a t) → post (bI (repd S a t)) r') : P_X6_forgetOn 221 r (nI a) (nI t) post := by
  have y1 : S (101 + 6 * a + t) ≤ 1000 := ok.h1k (by omega) ht
  have y0 : S (161 + 6 * a + t) ≤ 1000 := ok.n1k (by omega) ht
  obtain ⟨e1, e2⟩ := mxh (a := a) (b := t) (by omega) ht
  obtain ⟨e3, e4⟩ := mxn (a := a) (b := t) (by omega) ht
  unfold P_X6_forgetOn P_X6_forgetOn_b55 P_X6_at
  dsimp only
  rw [e1, e3, hM (101 + 6 * a + t) (by omega), hM (161 + 6 * a + t) (by omega)]
  refine ⟨e2, e4, fa2 ⟨e2, e4, ?_⟩⟩
  have A : AgM (upd (upd r (101 + 6 * a + t) 0) (161 + 6 * a + t) 0) (dropS S a t) := AgM_upd (AgM_upd hM rfl) rfl
  have h' := h _ A
  refine brN0 (by omega) (fun z => ?_) (fun z => ?_)
  · rw [show repd S a t = false from decide_eq_false (by show ¬ (0 < S (101 + 6 * a + t) ∨ 0 < S (161 + 6 * a + t)); omega)] at h'; exact h'
  · rw [show repd S a t = true from decide_eq_true (by show (0 < S (101 + 6 * a + t) ∨ 0 < S (161 + 6 * a + t)); omega)] at h'; exact h'
