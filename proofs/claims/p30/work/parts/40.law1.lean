/-! the relation; law's plain cases -/
def RText (tl : Int32) (ts : Nat → Int32) (sz : Int32) (mt : Nat → Int32) : Prop := ∃ n t, tl = nI n ∧ sz = nI n ∧ n ≤ 100 ∧ AgX ts n t ∧ AgX mt n t
theorem iv {i k L : Nat} (hi : i + k < L) (hL : L ≤ 2560) : vp_in (nI i + nI k) L := by rw [nI_add]; exact nI_in hi (by omega)
theorem cmpN {c : Int32} {B A : Prop} (hc : ¬ c = 0) (h : A) : (c = c → ((c = 0 → B) ∧ (¬ (c = 0) → A))) ∧ (¬ (c = c) → False) := brT rfl (brF hc h)
theorem f20 : ¬ ((2 : Int32) = 0) := by decide
theorem f30 : ¬ ((3 : Int32) = 0) := by decide
theorem whyL_0 {S : Nat → Nat} {x y len : Int32} (z : canJ S x y len = true) : whyL S x y len = 0 := by
  have q := of_decide_eq_true z
  unfold whyL; rw [if_pos ⟨q.1, q.2.1⟩, if_neg (fun w => w.elim q.2.2.1 (fun w => by rw [q.2.2.2.1] at w; exact nomatch w)), if_pos z]
theorem rdX_both {S : Nat → Nat} {x y : Int32} (h : 0 < rdX S x y) : bothT S x y = true := by
  by_cases q : isT (S 0) x = true ∧ isT (S 0) y = true
  · unfold bothT; rw [q.1, q.2]; rfl
  · unfold rdX at h; rw [if_neg q] at h; omega
theorem isNote_T {S : Nat → Nat} {x t y : Int32} (h : isNote S x t y = true) : isT (S 0) x = true := (of_decide_eq_true h).1
theorem isPair_T {S : Nat → Nat} {x t : Int32} (h : isPair S x t = true) : isT (S 0) x = true ∧ isT 6 t = true := of_decide_eq_true h
theorem OK_noteS2 {S : Nat → Nat} (ok : OK S) {x t y : Int32} (h : isNote S x t y = true) (has : Int32) : OK (noteS S (NN x) (NN t) (NN y) has) := by
  have hT := ok.T
  obtain ⟨e, f, g⟩ := of_decide_eq_true h
  obtain ⟨a, ha, rfl⟩ := isT_ex (by omega) e
  obtain ⟨b, hb, rfl⟩ := isT_ex (by omega) f
  obtain ⟨n, hn, rfl⟩ := isYr_ex g
  rw [NN_nI (by omega), NN_nI (by omega), NN_nI (by omega)]
  exact OK_noteS ok ha hb hn has
theorem OK_dropS2 {S : Nat → Nat} (ok : OK S) {x t : Int32} (h : isPair S x t = true) : OK (dropS S (NN x) (NN t)) := by
  have hT := ok.T
  obtain ⟨e, f⟩ := of_decide_eq_true h
  obtain ⟨a, ha, rfl⟩ := isT_ex (by omega) e
  obtain ⟨b, hb, rfl⟩ := isT_ex (by omega) f
  rw [NN_nI (by omega), NN_nI (by omega)]
  exact OK_dropS ok (by omega) hb
