/-! the model's land -/
def AgM (r : Nat → Int32) (S : Nat → Nat) : Prop := ∀ k, k < 221 → r k = nI (S k)
theorem sumTo_add {n : Nat} {f g : Nat → Nat} : sumTo n (fun i => f i + g i) = sumTo n f + sumTo n g := by
  induction n with
  | zero => rfl
  | succ n ih => show sumTo n (fun i => f i + g i) + (f n + g n) = sumTo n f + f n + (sumTo n g + g n); rw [ih]; omega
theorem sumTo_comm {n m : Nat} {f : Nat → Nat → Nat} : sumTo n (fun i => sumTo m (f i)) = sumTo m (fun j => sumTo n (fun i => f i j)) := by
  induction n with
  | zero => exact (sumTo_0 (fun _ _ => rfl)).symm
  | succ n ih =>
    show sumTo n (fun i => sumTo m (f i)) + sumTo m (f n) = sumTo m (fun j => sumTo n (fun i => f i j) + f n j)
    rw [ih, sumTo_add]
theorem sumTo_mul {n m : Nat} {f : Nat → Nat} : sumTo (m * n) f = sumTo m (fun a => sumTo n (fun b => f (n * a + b))) := by
  have cat : ∀ k p, sumTo (p + k) f = sumTo p f + sumTo k (fun b => f (p + b)) := fun k p => by
    induction k with
    | zero => rfl
    | succ k ih => show sumTo (p + k) f + f (p + k) = sumTo p f + (sumTo k (fun b => f (p + b)) + f (p + k)); rw [ih]; omega
  induction m with
  | zero => rw [Nat.zero_mul]; rfl
  | succ m ih =>
    show _ = sumTo m (fun a => sumTo n (fun b => f (n * a + b))) + sumTo n (fun b => f (n * m + b))
    rw [Nat.succ_mul, cat n (m * n), ih, Nat.mul_comm m n]
theorem cnt_twice {S : Nat → Nat} (ok : OK S) : sumTo 100 (fun k => b1 (0 < S (1 + k))) = cnt S + cnt S := by
  rw [show (100 : Nat) = 10 * 10 from rfl, sumTo_mul]
  have e2 : cnt S = sumTo 10 (fun a => sumTo 10 (fun b => b1 (b < a && 0 < rd S a b))) := by
    unfold cnt
    rw [sumTo_comm]
    exact sumTo_congr (fun a ha => sumTo_congr (fun b hb => by show b1 _ = b1 _; rw [ok.sym hb ha]))
  have e3 : cnt S + cnt S = sumTo 10 (fun a => sumTo 10 (fun b => b1 (a < b && 0 < rd S a b))) + sumTo 10 (fun a => sumTo 10 (fun b => b1 (b < a && 0 < rd S a b))) := by rw [← e2]; rfl
  rw [e3, ← sumTo_add]
  refine sumTo_congr (fun a ha => ?_)
  show _ = sumTo 10 _ + sumTo 10 _
  rw [← sumTo_add]
  refine sumTo_congr (fun b hb => ?_)
  show b1 (decide (0 < S (1 + (10 * a + b)))) = b1 _ + b1 _
  rw [← Nat.add_assoc]
  by_cases h : a < b
  · rw [decide_eq_true h, decide_eq_false (show ¬ b < a by omega), Bool.true_and, Bool.false_and]; rfl
  · by_cases g : b < a
    · rw [decide_eq_true g, decide_eq_false h, Bool.true_and, Bool.false_and]; exact (Nat.zero_add _).symm
    · have e : a = b := by omega
      subst e
      have := ok.diag ha
      rw [decide_eq_false h, Bool.false_and]
      show b1 (decide (0 < rd S a a)) = _
      rw [this]; rfl
theorem l_lt {a b : Int64} : a < b ↔ a.toInt < b.toInt := Int64.lt_iff_toInt_lt
theorem x6_in {x lo hi : Int64} {post : Int32 → Prop} (h : post (bI (decide (lo.toInt ≤ x.toInt ∧ x.toInt ≤ hi.toInt)))) : P_X6_in x lo hi post := by
  unfold P_X6_in P_X6_in_b17 P_X6_in_b18
  rw [lg_cmp_lt, lg_cmp_gt, l_lt, l_lt]
  refine br (fun q => ⟨rfl, ?_⟩) (fun p => br (fun q => ⟨rfl, ?_⟩) (fun q => ⟨rfl, ?_⟩))
  · rw [decide_eq_false (by omega)] at h; exact h
  · rw [decide_eq_false (by omega)] at h; exact h
  · rw [decide_eq_true (by omega)] at h; exact h
theorem x6_in' {x : Int32} {lo hi : Int64} {f : Bool} {post : Int32 → Prop} (hf : f = decide (lo.toInt ≤ x.toInt ∧ x.toInt ≤ hi.toInt)) (h : post (bI f)) : P_X6_in x.toInt64 lo hi post :=
  x6_in (by rw [Int32.toInt_toInt64, ← hf]; exact h)
theorem m0 {r : Nat → Int32} {S : Nat → Nat} (hM : AgM r S) : r (0 : Int32).toNatClampNeg = nI (S 0) := hM 0 (by omega)
theorem nI_m1 {n : Nat} (hn : n < 2 ^ 31) : (nI n - 1).toInt = (n : Int) - 1 := by
  cases n with
  | zero => rfl
  | succ n => rw [nI_pred, nI_toInt (by omega)]; omega
theorem x6_isTown {r : Nat → Int32} {S : Nat → Nat} (hM : AgM r S) (ok : OK S) {x : Int32} {post : Int32 → Prop} (h : post (bI (isT (S 0) x))) : P_X6_isTown 221 r x post := by
  have hT := ok.T
  unfold P_X6_isTown
  rw [m0 hM]
  refine ⟨nI_in (c := 0) (by omega) (by omega), x6_in' (f := isT (S 0) x) ?_ ⟨bI_nb _, h⟩⟩
  rw [Int32.toInt_toInt64, nI_m1 (by omega)]
  show decide (0 ≤ x.toInt ∧ x.toInt < (S 0 : Int)) = decide ((0 : Int64).toInt ≤ x.toInt ∧ x.toInt ≤ (S 0 : Int) - 1)
  rw [show (0 : Int64).toInt = 0 from rfl]
  exact decide_eq_decide.mpr (by omega)
theorem x6_isTrait {x : Int32} {post : Int32 → Prop} (h : post (bI (isT 6 x))) : P_X6_isTrait x post := by
  unfold P_X6_isTrait
  refine x6_in' (f := isT 6 x) ?_ ⟨bI_nb _, h⟩
  unfold isT
  rw [show (0 : Int64).toInt = 0 from rfl, show (5 : Int64).toInt = 5 from rfl]
  exact decide_eq_decide.mpr (by omega)
theorem x6_isYear {x : Int32} {post : Int32 → Prop} (h : post (bI (isYr x))) : P_X6_isYear x post := by
  unfold P_X6_isYear
  exact x6_in' (f := isYr x) rfl ⟨bI_nb _, h⟩
theorem mx10 (a b : Nat) : ((1 : Int32) + ((10 : Int32) * nI a)) + nI b = nI (1 + 10 * a + b) := by
  rw [show (1 : Int32) = nI 1 from rfl, show (10 : Int32) = nI 10 from rfl, pk_mul, nI_add, nI_add]
theorem mx6 (c a b : Nat) : nI c + (((6 : Int32) * nI a) + nI b) = nI (c + (6 * a + b)) := by
  rw [show (6 : Int32) = nI 6 from rfl, pk_mul, nI_add, nI_add]
theorem mxr {a b : Nat} (ha : a < 10) (hb : b < 10) : (((1 : Int32) + ((10 : Int32) * nI a)) + nI b).toNatClampNeg = 1 + 10 * a + b ∧ vp_in (((1 : Int32) + ((10 : Int32) * nI a)) + nI b) 221 := by
  rw [mx10]; exact ⟨nI_clamp (by omega), nI_in (by omega) (by omega)⟩
theorem mxh {a b : Nat} (ha : a < 10) (hb : b < 6) : ((101 : Int32) + (((6 : Int32) * nI a) + nI b)).toNatClampNeg = 101 + 6 * a + b ∧ vp_in ((101 : Int32) + (((6 : Int32) * nI a) + nI b)) 221 := by
  rw [show (101 : Int32) = nI 101 from rfl, mx6, ← Nat.add_assoc]; exact ⟨nI_clamp (by omega), nI_in (by omega) (by omega)⟩
theorem mxn {a b : Nat} (ha : a < 10) (hb : b < 6) : ((161 : Int32) + (((6 : Int32) * nI a) + nI b)).toNatClampNeg = 161 + 6 * a + b ∧ vp_in ((161 : Int32) + (((6 : Int32) * nI a) + nI b)) 221 := by
  rw [show (161 : Int32) = nI 161 from rfl, mx6, ← Nat.add_assoc]; exact ⟨nI_clamp (by omega), nI_in (by omega) (by omega)⟩
theorem x6_length {r : Nat → Int32} {S : Nat → Nat} (hM : AgM r S) {a b : Nat} (ha : a < 10) (hb : b < 10) {post : Int32 → Prop} (h : post (nI (rd S a b))) : P_X6_length 221 r (nI a) (nI b) post := by
  unfold P_X6_length
  obtain ⟨e1, e2⟩ := mxr ha hb
  refine ⟨e2, ?_⟩
  rw [e1, hM _ (by omega)]; exact h
theorem brN0 {n : Nat} {A B : Prop} (hn : n < 2 ^ 31) (h0 : n = 0 → A) (h1 : 0 < n → B) : (nI n ≤ 0 → A) ∧ (¬ (nI n ≤ 0) → B) := by
  rw [show (0 : Int32) = nI 0 from rfl, i_leN hn (by omega)]; exact ⟨fun q => h0 (by omega), fun q => h1 (by omega)⟩
theorem brE0 {n : Nat} {A B : Prop} (hn : n < 2 ^ 31) (h0 : n = 0 → A) (h1 : 0 < n → B) : (nI n = 0 → A) ∧ (¬ (nI n = 0) → B) := by
  rw [show (0 : Int32) = nI 0 from rfl, i_eqN hn (by omega)]; exact ⟨h0, fun q => h1 (by omega)⟩
theorem fa2 {a b : Nat} {A : Int32 → Prop} (h : A (nI (a + b))) : ∀ x : Int32, x = nI a + nI b → A x := fun x hx => by rw [hx, nI_add]; exact h
theorem x6_meet {r : Nat → Int32} {S : Nat → Nat} (hM : AgM r S) (ok : OK S) {a : Nat} (ha : a < 10) {post : Int32 → Prop} (h : post (nI (deg S a))) : P_X6_meet 221 r (nI a) post := by
  unfold P_X6_meet
  let f : Nat → Nat := fun b => b1 (0 < rd S a b)
  refine forN (fun n i => P_X6_meet_l4 221 r (nI a) post n (nI (sumTo i f)) (nI i)) 10 ?_ ?_ 0 (by omega)
  · intro n
    show P_X6_meet_b4 _ _ _ _ _ _ _
    unfold P_X6_meet_b4
    exact brT (nI_le (a := 10) (Nat.le_refl _) (by omega)) h
  · intro n i hi hv
    show P_X6_meet_b4 _ _ _ _ _ _ _
    unfold P_X6_meet_b4 P_X6_meet_b25
    refine brF (nI_ge (b := 10) hi (by omega)) ?_
    have r9 := ok.r99 (a := a) (b := i) ha hi
    apply x6_length hM ha hi
    refine brN0 (by omega) (fun e => fa2 (b := 0) (fa1 ?_)) (fun e => fa2 (b := 1) (fa1 ?_))
    · rw [show sumTo (i + 1) f = sumTo i f + 0 by show _ + b1 (decide (0 < rd S a i)) = _; rw [e]; rfl] at hv; exact hv
    · rw [show sumTo (i + 1) f = sumTo i f + 1 by show _ + b1 (decide (0 < rd S a i)) = _; rw [decide_eq_true e]; rfl] at hv; exact hv
theorem x6_roads {r : Nat → Int32} {S : Nat → Nat} (hM : AgM r S) (ok : OK S) {post : Int32 → Prop} (h : post (nI (cnt S))) : P_X6_roads 221 r post := by
  unfold P_X6_roads
  let f : Nat → Nat := fun k => b1 (0 < S (1 + k))
  have c15 := ok.cnt15
  refine forN (fun n i => P_X6_roads_l4 221 r post n (nI (sumTo i f)) (nI i)) 100 ?_ ?_ 0 (by omega)
  · intro n
    show P_X6_roads_b4 _ _ _ _ _ _
    unfold P_X6_roads_b4
    refine brT (nI_le (a := 100) (Nat.le_refl _) (by omega)) ?_
    rw [show (2 : Int32) = nI 2 from rfl, show sumTo 100 f = cnt S + cnt S from cnt_twice ok, pk_div (by omega) (by omega) (by omega), show (cnt S + cnt S) / 2 = cnt S by omega]
    exact h
  · intro n i hi hv
    show P_X6_roads_b4 _ _ _ _ _ _
    unfold P_X6_roads_b4 P_X6_roads_b24
    refine brF (nI_ge (b := 100) hi (by omega)) ?_
    rw [show (1 : Int32) + nI i = nI (1 + i) from nI_add 1 i, nI_clamp (by omega), hM _ (by omega)]
    have s99 : S (1 + i) ≤ 99 := by
      have : S (1 + 10 * (i / 10) + i % 10) ≤ 99 := ok.r99 (a := i / 10) (b := i % 10) (by omega) (by omega)
      rw [show 1 + 10 * (i / 10) + i % 10 = 1 + i by omega] at this; exact this
    refine ⟨nI_in (by omega) (by omega), brN0 (by omega) (fun e => fa2 (b := 0) (fa1 ?_)) (fun e => fa2 (b := 1) (fa1 ?_))⟩
    · rw [show sumTo (i + 1) f = sumTo i f + 0 by show _ + b1 (decide (0 < S (1 + i))) = _; rw [e]; rfl] at hv; exact hv
    · rw [show sumTo (i + 1) f = sumTo i f + 1 by show _ + b1 (decide (0 < S (1 + i))) = _; rw [decide_eq_true e]; rfl] at hv; exact hv
theorem x6_areTowns {r : Nat → Int32} {S : Nat → Nat} (hM : AgM r S) (ok : OK S) {x y : Int32} {post : Int32 → Prop} (h : post (bI (isT (S 0) x && isT (S 0) y))) : P_X6_areTowns 221 r x y post := by
  unfold P_X6_areTowns P_X6_areTowns_b20 P_X6_areTowns_b21
  apply x6_isTown hM ok; refine bI_br (fun e => ⟨rfl, by rw [e] at h; exact h⟩) (fun e => ?_)
  apply x6_isTown hM ok; refine bI_br (fun f => ⟨rfl, by rw [e, f] at h; exact h⟩) (fun f => ⟨rfl, by rw [e, f] at h; exact h⟩)
def whyL (S : Nat → Nat) (x y len : Int32) : Int32 :=
  if isT (S 0) x = true ∧ isT (S 0) y = true then (if x = y ∨ isLen len = false then 2 else if canJ S x y len = true then 0 else 3) else 1
theorem x6_whyNotLay {r : Nat → Int32} {S : Nat → Nat} (hM : AgM r S) (ok : OK S) {x y len : Int32} {post : Int32 → Prop} (h : post (whyL S x y len)) : P_X6_whyNotLay 221 r x y len post := by
  have hT := ok.T
  unfold P_X6_whyNotLay P_X6_whyNotLay_b28 P_X6_whyNotLay_b57 P_X6_whyNotLay_b62 P_X6_whyNotLay_b82 P_X6_whyNotLay_b83
  unfold whyL at h
  apply x6_areTowns hM ok; refine bI_br (fun e => ?_) (fun e => ?_)
  · rw [if_neg (fun q => by rw [q.1, q.2] at e; exact nomatch e)] at h; exact h
  have e' : isT (S 0) x = true ∧ isT (S 0) y = true := by
    cases p : isT (S 0) x <;> cases q : isT (S 0) y <;> rw [p, q] at e <;> first | exact ⟨rfl, rfl⟩ | exact nomatch e
  rw [if_pos e'] at h
  refine br (fun g => by rw [if_pos (Or.inl g)] at h; exact h) (fun g => ?_)
  refine x6_in' (f := isLen len) rfl (bI_br (fun k => by rw [if_pos (Or.inr k)] at h; exact h) (fun k => ?_))
  rw [if_neg (fun q => q.elim g (fun z => by rw [z] at k; exact nomatch k))] at h
  obtain ⟨a, ha, rfl⟩ := isT_ex (by omega) e'.1
  obtain ⟨b, hb, rfl⟩ := isT_ex (by omega) e'.2
  have d1 := ok.deg3 (a := a) (by omega)
  have d2 := ok.deg3 (a := b) (by omega)
  have d3 := ok.cnt15
  have r9 := ok.r99 (a := a) (b := b) (by omega) (by omega)
  have E : canJ S (nI a) (nI b) len = decide (0 < rd S a b ∨ (deg S a < 3 ∧ deg S b < 3 ∧ cnt S < 15)) := by
    unfold canJ
    rw [rdX_n ha hb hT, NN_nI (by omega), NN_nI (by omega)]
    by_cases z : 0 < rd S a b ∨ (deg S a < 3 ∧ deg S b < 3 ∧ cnt S < 15)
    · rw [decide_eq_true z, decide_eq_true ⟨e'.1, e'.2, g, k, z⟩]
    · rw [decide_eq_false z, decide_eq_false (fun q => z q.2.2.2.2)]
  rw [E] at h
  have ye : (0 < rd S a b ∨ (deg S a < 3 ∧ deg S b < 3 ∧ cnt S < 15)) → post 0 := fun z => by rw [if_pos (decide_eq_true z)] at h; exact h
  have no : ¬ (0 < rd S a b ∨ (deg S a < 3 ∧ deg S b < 3 ∧ cnt S < 15)) → post 3 := fun z => by rw [if_neg (by rw [decide_eq_false z]; decide)] at h; exact h
  have full : ¬ (deg S a < 3 ∧ deg S b < 3 ∧ cnt S < 15) → P_X6_length 221 r (nI a) (nI b) (fun r_1 => (r_1 = 0 → (((1 : Int32) = 0 → post 0) ∧ (¬ ((1 : Int32) = 0) → post 3))) ∧ (¬ (r_1 = 0) → post 0)) := fun z => by
    apply x6_length hM (by omega) (by omega)
    exact brE0 (by omega) (fun w => brF (by decide) (no (by omega))) (fun w => ye (Or.inl w))
  apply x6_meet hM ok (by omega)
  rw [show (3 : Int32) = nI 3 from rfl, i_eqN (by omega) (by omega)]
  refine br (fun q => full (by omega)) (fun q => ?_)
  apply x6_meet hM ok (by omega)
  rw [i_eqN (by omega) (by omega)]
  refine br (fun q => full (by omega)) (fun q => ?_)
  apply x6_roads hM ok
  rw [show (15 : Int32) = nI 15 from rfl, i_eqN (by omega) (by omega)]
  refine br (fun q => full (by omega)) (fun q => ?_)
  apply x6_length hM (by omega) (by omega)
  exact brE0 (by omega) (fun w => brT rfl (ye (by omega))) (fun w => ye (Or.inl w))
theorem AgM_upd {r : Nat → Int32} {S : Nat → Nat} (hM : AgM r S) {k v : Nat} {x : Int32} (hx : x = nI v) : AgM (upd r k x) (setS S k v) := by
  intro j hj
  show (if j = k then x else r j) = nI (if j = k then v else S j)
  by_cases e : j = k
  · rw [if_pos e, if_pos e, hx]
  · rw [if_neg e, if_neg e, hM j hj]
theorem AgM_eq {r q : Nat → Int32} {S : Nat → Nat} (hM : AgM r S) (h : ∀ k, k < 221 → q k = r k) : AgM q S := fun k hk => by rw [h k hk]; exact hM k hk
theorem x6_layOn {r : Nat → Int32} {S : Nat → Nat} (hM : AgM r S) {a b n : Nat} (ha : a < 10) (hb : b < 10) (ok' : OK (setRd S a b n)) {post : Int32 → (Nat → Int32) → Prop} (h : ∀ r', AgM r' (setRd S a b n) → post (nI (cnt (setRd S a b n))) r') : P_X6_layOn 221 r (nI a) (nI b) (nI n) post := by
  unfold P_X6_layOn
  obtain ⟨e1, e2⟩ := mxr ha hb
  obtain ⟨e3, e4⟩ := mxr hb ha
  refine ⟨e2, e4, ?_⟩
  rw [e1, e3]
  have A : AgM (upd (upd r (1 + 10 * a + b) (nI n)) (1 + 10 * b + a) (nI n)) (setRd S a b n) := AgM_upd (AgM_upd hM rfl) rfl
  exact x6_roads A ok' (h _ A)
theorem x6_tearOn {r : Nat → Int32} {S : Nat → Nat} (hM : AgM r S) {a b : Nat} (ha : a < 10) (hb : b < 10) (ok' : OK (setRd S a b 0)) {post : Int32 → (Nat → Int32) → Prop} (h : ∀ r', AgM r' (setRd S a b 0) → post (nI (rd S a b)) r') : P_X6_tearOn 221 r (nI a) (nI b) post := by
  unfold P_X6_tearOn
  exact x6_length hM ha hb (x6_layOn hM ha hb (n := 0) ok' h)
theorem x6_areAgainst {r : Nat → Int32} {S : Nat → Nat} (hM : AgM r S) (ok : OK S) {a t : Nat} (ha : a < 10) (ht : t < 6) {post : Int32 → Prop} (h : post (bI (cond S a t))) : P_X6_areAgainst 221 r (nI a) (nI t) post := by
  have y1 : S (101 + 6 * a + t) ≤ 1000 := ok.h1k ha ht
  have y0 : S (161 + 6 * a + t) ≤ 1000 := ok.n1k ha ht
  unfold P_X6_areAgainst P_X6_areAgainst_b41 P_X6_areAgainst_b42 P_X6_at
  obtain ⟨e1, e2⟩ := mxh ha ht
  obtain ⟨e3, e4⟩ := mxn ha ht
  dsimp only
  rw [e1, e3, hM _ (by omega), hM _ (by omega)]
  refine ⟨e2, brN0 (by omega) (fun e => ⟨rfl, ?_⟩) (fun e => ⟨e2, e4, ?_⟩)⟩
  · rw [show cond S a t = false from decide_eq_false (by show ¬ (0 < S (101 + 6 * a + t) ∧ S (101 + 6 * a + t) ≤ S (161 + 6 * a + t)); omega)] at h; exact h
  · rw [i_ltN (by omega) (by omega)]
    refine br (fun f => ⟨rfl, ?_⟩) (fun f => ⟨rfl, ?_⟩)
    · rw [show cond S a t = false from decide_eq_false (by show ¬ (0 < S (101 + 6 * a + t) ∧ S (101 + 6 * a + t) ≤ S (161 + 6 * a + t)); omega)] at h; exact h
    · rw [show cond S a t = true from decide_eq_true (by show (0 < S (101 + 6 * a + t) ∧ S (101 + 6 * a + t) ≤ S (161 + 6 * a + t)); omega)] at h; exact h
