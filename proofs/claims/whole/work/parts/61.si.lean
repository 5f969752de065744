/-! since when, and in which order -/
noncomputable def yrs (S : Nat → Nat) (x : Nat) : Nat → Nat := gs S x exN (ini S x (orgN (FL S x)) 1000)
noncomputable def sinceI (S : Nat → Nat) (t x : Nat) : Int32 := if yrs S x t < 1000 then nI (yrs S x t) else -1
theorem yrs_le {S : Nat → Nat} (ok : OK S) {x : Nat} (hx : x < 6) : ∀ t, t < S 0 → yrs S x t ≤ 1000 := fun t ht =>
  Nat.le_trans ((gs_sol S x exN (ini S x (orgN (FL S x)) 1000)).1.1 t ht) (ini_le ok hx (Nat.le_refl _) t ht)
theorem HS_y {S : Nat → Nat} {x : Nat} {b : BH} (h : HS S x b) : b.1 = nI (S 0) ∧ AgY b.2.2.2.2.2.2.2.2.2.2.2.2.2.1 (S 0) (yrs S x) := by
  obtain ⟨tw, ro, kk, fe, og, al, so, ls, fr, to, ln, ea, la, ye, xp, tg⟩ := b
  obtain ⟨Y, hY, hA⟩ := h.2.2.2.2.2.1
  exact ⟨h.1, fun t ht => by
    show ye t = _
    rw [hA t ht, GSol_uniq hY (gs_sol S x exN (ini S x (orgN (FL S x)) 1000)) t ht]; rfl⟩
theorem ini_cap {S : Nat → Nat} (ok : OK S) {x s : Nat} (hx : x < 6) : ∀ t, t < S 0 → ini S x s 1000 t = min (ini S x s 100000 t) 1000 := fun t ht => by
  have hT := ok.T
  have : bdS S x t ≤ 1000 := ok.n1k (by omega) hx
  unfold ini; split <;> omega
theorem x6_layYears {r : Nat → Int32} {S : Nat → Nat} {b : BM} (hM : AgM r S) (ok : OK S) {x : Nat} (hx : x < 6) {post : BM → Prop} (h : ∀ (m : BM) (Y : Nat → Nat), AgY m.2.2.2.2.2 (S 0) Y → (∀ t, t < S 0 → Y t ≤ 100000 ∧ yrs S x t = min (Y t) 1000) → post m) : P_X6_layYears 221 b r (nI x) post := by
  have hT := ok.T
  unfold P_X6_layYears P_X6_layYears_b25
  refine x6_findLeast hM ok hx (fun w => ?_)
  have hO := orgN_lt ok (x := x)
  have fin : ∀ (d : BM) (w1 : Nat → Int32), P_X6_layOrigins 221 w1 r (nI x) (nI (orgN (FL S x))) (fun m_2 => P_X6_spread 221 m_2 r (nI x) (-1 : Int32) (fun m_4 => post (d.1, d.2.1, d.2.2.1, d.2.2.2.1, d.2.2.2.2.1, m_4))) := fun d w1 =>
    x6_layOrigins hM ok hx (by omega) (fun w2 hw2 => x6_spread hM ok hx (exN_m1 hT) hw2 (ini_le ok hx (by omega)) (fun w3 Y hY hw3 => h _ Y hw3 (fun t ht =>
      ⟨Nat.le_trans (hY.1.1 t ht) (ini_le ok hx (by omega) t ht), GSol_cap hY (gs_sol S x exN (ini S x (orgN (FL S x)) 1000)) (ini_cap ok hx) t ht⟩)))
  cases hF : FL S x with
  | none => rw [hF] at fin; exact brT rfl (fin (BMof none w) _)
  | some v =>
    obtain ⟨L, o, A, B, c⟩ := v
    rw [hF] at fin hO
    have hO' : o < 1024 := hO
    refine brF (fun e => ?_) (fin (BMof (some (L, o, A, B, c)) w) _)
    have := congrArg Int32.toInt (show nI o = -1 from e)
    rw [nI_toInt (by omega), show (-1 : Int32).toInt = -1 from rfl] at this; omega
theorem c_sinceWhen {C : Nat → Int32} {S : Nat → Nat} {b : BH} (hC : AgC C S) (ok : OK S) {t x : Nat} (ht : t < S 0) (hx : x < 6) {post : Int32 → BH → Prop} (h : ∀ b', post (sinceI S t x) b') : P_X0_sinceWhen b C (nI t) (nI x) post := by
  have hT := ok.T
  unfold P_X0_sinceWhen P_X0_sinceWhen_b40 P_X0_sinceWhen_b41
  refine c_study hC ok hx (fun b' hb => ?_)
  obtain ⟨e1, e2⟩ := HS_y hb
  have yl := yrs_le ok hx t ht
  have h' := h b'
  unfold sinceI at h'
  rw [e1, nI_clamp (by omega), e2 t ht, show (1000 : Int32) = nI 1000 from rfl, i_leN (a := 1000) (b := yrs S x t) (by omega) (by omega)]
  refine brF (nI_pos (by omega)) (brF (nI_ge ht (by omega)) ⟨nI_in (by omega) (by omega), br (fun q => ?_) (fun q => ⟨nI_in (by omega) (by omega), ?_⟩)⟩)
  · rw [if_neg (by omega)] at h'; exact h'
  · rw [if_pos (by omega)] at h'; exact h'
theorem x6_sinceOn {r : Nat → Int32} {S : Nat → Nat} {b : BM} (hM : AgM r S) (ok : OK S) {t x : Nat} (ht : t < S 0) (hx : x < 6) {post : Int32 → BM → Prop} (h : ∀ b', post (sinceI S t x) b') : P_X6_sinceOn 221 b r (nI t) (nI x) post := by
  have hT := ok.T
  unfold P_X6_sinceOn P_X6_sinceOn_b28
  refine x6_layYears hM ok hx (fun m Y hY hc => ?_)
  have c := hc t ht
  have h' := h m
  unfold sinceI at h'
  rw [nI_clamp (by omega), hY t ht, show (1000 : Int32) = nI 1000 from rfl, i_leN (by omega) (by omega)]
  refine ⟨nI_in (by omega) (by omega), br (fun q => ?_) (fun q => ⟨nI_in (by omega) (by omega), ?_⟩)⟩
  · rw [if_neg (by omega)] at h'; exact h'
  · rw [if_pos (by omega), show yrs S x t = Y t by omega] at h'; exact h'
theorem l_since {C : Nat → Int32} {S : Nat → Nat} {a : Nat → Int64} {b : BH} (hC : AgC C S) (ok : OK S) {x y : Int32} {post : Int32 → BH → (Nat → Int64) → Prop} (h1 : isT (S 0) x = false → post 1 b a) (h2 : isT (S 0) x = true → isT 6 y = false → post 2 b a)
    (h0 : isT (S 0) x = true → isT 6 y = true → ∀ b', post 0 b' (outA a (sinceI S (NN x) (NN y)))) : P_L_since 1 C b a x y post := by
  have hT := ok.T
  unfold P_L_since P_X5_since
  refine x5_needTown hC ok (fun e => Or.inl ⟨rfl, h1 e⟩) (fun e => x5_needTrait (fun f => Or.inr ⟨rfl, h2 e f⟩) (fun f => ?_))
  have h := h0 e f
  obtain ⟨t, ht, rfl⟩ := isT_ex (by omega) e
  obtain ⟨k, hk, rfl⟩ := isT_ex (by omega) f
  rw [NN_nI (by omega), NN_nI (by omega)] at h
  exact c_sinceWhen hC ok ht hk (fun b' => ⟨in01, h b'⟩)
theorem x6_since {o : Int32} {r : Nat → Int32} {S : Nat → Nat} {b : BM} (hM : AgM r S) (ok : OK S) {x y : Int32} {post : Int32 → Int32 → BM → Prop} (h1 : isT (S 0) x = false → post 0 1 b) (h2 : isT (S 0) x = true → isT 6 y = false → post 0 2 b)
    (h0 : isT (S 0) x = true → isT 6 y = true → ∀ b', post (sinceI S (NN x) (NN y)) 0 b') : P_X6_since o b r x y post := by
  have hT := ok.T
  unfold P_X6_since P_X6_since_b28
  apply x6_isTown hM ok; refine bI_br (fun e => x6_no1 (brF f10 (h1 e))) (fun e => ?_)
  apply x6_isTrait; refine bI_br (fun f => x6_no2 (brF f10 (h2 e f))) (fun f => x6_ok (brT rfl ?_))
  have h := h0 e f
  obtain ⟨t, ht, rfl⟩ := isT_ex (by omega) e
  obtain ⟨k, hk, rfl⟩ := isT_ex (by omega) f
  rw [NN_nI (by omega), NN_nI (by omega)] at h
  exact x6_sinceOn hM ok ht hk h
