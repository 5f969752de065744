/-! since when, and in which order -/
noncomputable def yrs (S : Nat → Nat) (x : Nat) : Nat → Nat := gs S x exN (ini S x (orgN (FL S x)) 1000)
noncomputable def sinceI (S : Nat → Nat) (t x : Nat) : Int32 := if yrs S x t < 1000 then nI (yrs S x t) else -1
theorem yrs_le {S : Nat → Nat} (ok : OK S) {x : Nat} (hx : x < 6) : ∀ t, t < S 0 → yrs S x t ≤ 1000 := fun t ht =>
  Nat.le_trans ((gs_sol S x exN (ini S x (orgN (FL S x)) 1000)).1.1 t ht) (ini_le ok hx (Nat.le_refl _) t ht)
theorem HS_y {S : Nat → Nat} {x : Nat} {b : BH} (h : HS S x b) : b.1 = nI (S 0) ∧ AgY b.2.2.2.2.2.2.2.2.2.2.2.2.2.1 (S 0) (yrs S x) := by
  obtain ⟨tw, ro, kk, fe, og, al, so, ls, fr, to, ln, ea, la, ye, xp, tg⟩ := b
  obtain ⟨Y, hY, hA⟩ := h.2.2.2.2.2.1
  exact ⟨h.1, fun t ht => by
    show ye t = _
    rw [hA t ht, GSol_uniq hY (gs_sol S x exN (ini S x (orgN (FL S x)) 1000)) t ht]; rfl⟩
theorem ini_cap {S : Nat → Nat} (ok : OK S) {x s : Nat} (hx : x < 6) : ∀ t, t < S 0 → ini S x s 1000 t = min (ini S x s 100000 t) 1000 := fun t ht => by
  have hT := ok.T
  have : bdS S x t ≤ 1000 := ok.n1k (by omega) hx
  unfold ini; split <;> omega
theorem c_sinceWhen {C : Nat → Int32} {S : Nat → Nat} {b : BH} (hC : AgC C S) (ok : OK S) {t x : Nat} (ht : t < S 0) (hx : x < 6) {post : Int32 → BH → Prop} (h : ∀ b', post (sinceI S t x) b') : P_X0_sinceWhen b C (nI t) (nI x) post := by
  have hT := ok.T
  unfold P_X0_sinceWhen P_X0_sinceWhen_b40 P_X0_sinceWhen_b41
  refine c_study hC ok hx (fun b' hb => ?_)
  obtain ⟨e1, e2⟩ := HS_y hb
  have yl := yrs_le ok hx t ht
  have h' := h b'
  unfold sinceI at h'
  rw [e1, nI_clamp (by omega), e2 t ht, show (1000 : Int32) = nI 1000 from rfl, i_leN (a := 1000) (b := yrs S x t) (by omega) (by omega)]
  refine brF (nI_pos (by omega)) (brF (nI_ge ht (by omega)) ⟨nI_in (by omega) (by omega), br (fun q => ?_) (fun q => ⟨nI_in (by omega) (by omega), ?_⟩)⟩)
  · rw [if_neg (by omega)] at h'; exact h'
  · rw [if_pos (by omega)] at h'; exact h'
