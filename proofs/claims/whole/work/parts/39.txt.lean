/-! the text taken and emptied; the places to save -/
theorem faN {e : Nat} {A : Nat → Prop} (h : A e) : ∀ j : Nat, j = e → A j := fun j hj => by rw [hj]; exact h
def AgX (s : Nat → Int32) (n : Nat) (t : Nat → Nat) : Prop := ∀ i, i < n → s i = nI (t i) ∧ t i < 256
def setT (t : Nat → Nat) (n c : Nat) : Nat → Nat := fun i => if i = n then c else t i
theorem AgX_upd {s : Nat → Int32} {n c : Nat} {t : Nat → Nat} {x : Int32} (h : AgX s n t) (hc : c < 256) (hx : x = nI c) : AgX (upd s n x) (n + 1) (setT t n c) := by
  intro i hi
  show (if i = n then x else s i) = nI (if i = n then c else t i) ∧ (if i = n then c else t i) < 256
  by_cases e : i = n
  · rw [if_pos e, if_pos e]; exact ⟨hx, hc⟩
  · rw [if_neg e, if_neg e]; exact h i (by omega)
def isSign (x : Int32) : Bool := decide (0 ≤ x.toInt ∧ x.toInt ≤ 255)
theorem isSign_ex {x : Int32} (h : isSign x = true) : ∃ c, c < 256 ∧ x = nI c := by
  have k2 := of_decide_eq_true h
  obtain ⟨n, hn, rfl⟩ := nI_of (x := x) (by rw [i_lt, show (0 : Int32).toInt = 0 from rfl]; omega)
  rw [nI_toInt hn] at k2
  exact ⟨n, by omega, rfl⟩
theorem my_nar_char {c : Nat} (hc : c < 256) : vp_nar .char (((nI c).toUInt32 % 65536).toInt32) = nI c := by
  rw [pk_char, show (nI c).toBitVec.toNat % 65536 = c by
    show (BitVec.ofNat 32 c).toNat % 65536 = c
    rw [BitVec.toNat_ofNat, Nat.mod_eq_of_lt (by omega), Nat.mod_eq_of_lt (by omega)]]
  unfold vp_nar; rw [(pk_charN (q := c) (by omega)).1]
theorem l_append {s : Nat → Int32} {n : Nat} {t : Nat → Nat} {a : Nat → Int64} (hn : n ≤ 100) (hX : AgX s n t) {x : Int32} {post : Int32 → Int32 → (Nat → Int32) → (Nat → Int64) → Prop} (h1 : isSign x = false → post 1 (nI n) s a) (h2 : isSign x = true → n = 100 → post 2 (nI n) s a)
    (h0 : isSign x = true → n < 100 → ∀ s', AgX s' (n + 1) (setT t n (NN x)) → post 0 (nI (n + 1)) s' (outA a (nI (n + 1)))) : P_L_append 1 (nI n) s a x post := by
  unfold P_L_append P_X5_append P_X5_append_b11
  refine br (fun q => Or.inl ⟨rfl, h1 (decide_eq_false ?_)⟩) (fun q => br (fun p => ?_) (fun p => Or.inl ⟨rfl, h1 (decide_eq_false ?_)⟩))
  · rw [i_lt, show (0 : Int32).toInt = 0 from rfl] at q; omega
  · have e : isSign x = true := decide_eq_true (by rw [i_lt, show (0 : Int32).toInt = 0 from rfl] at q; rw [i_le, show (255 : Int32).toInt = 255 from rfl] at p; omega)
    have h0' := h0 e
    obtain ⟨c, hc, rfl⟩ := isSign_ex e
    rw [NN_nI (by omega)] at h0'
    unfold P_X4_isFull P_X4_isFull_b14 P_X4_add P_X4_add_b30
    rw [show (100 : Int32) = nI 100 from rfl, i_ltN (by omega) (by omega), i_leN (by omega) (by omega), my_nar_char hc, nI_clamp (by omega)]
    refine br (fun z => ⟨rfl, brT rfl (brF (by omega) ⟨nI_in z (by omega), fa1 ⟨in01, h0' z _ (AgX_upd hX hc rfl)⟩⟩)⟩) (fun z => ⟨rfl, brF f10 (Or.inr ⟨rfl, h2 e (by omega)⟩)⟩)
  · rw [i_le, show (255 : Int32).toInt = 255 from rfl] at p; omega
theorem x6_append {o : Int32} {s : Nat → Int32} {n : Nat} {t : Nat → Nat} (hn : n ≤ 100) (hX : AgX s n t) {x : Int32} {post : Int32 → Int32 → Int32 → (Nat → Int32) → Prop} (h1 : isSign x = false → post 0 1 (nI n) s) (h2 : isSign x = true → n = 100 → post 0 2 (nI n) s)
    (h0 : isSign x = true → n < 100 → ∀ s', AgX s' (n + 1) (setT t n (NN x)) → post (nI (n + 1)) 0 (nI (n + 1)) s') : P_X6_append o (nI n) s x post := by
  unfold P_X6_append P_X6_append_b31
  refine x6_in' (f := isSign x) rfl (bI_br (fun e => x6_no1 (brF f10 (h1 e))) (fun e => ?_))
  have h0' := h0 e
  obtain ⟨c, hc, rfl⟩ := isSign_ex e
  rw [NN_nI (by omega)] at h0'
  rw [show (100 : Int32) = nI 100 from rfl, i_eqN (by omega) (by omega), nI_clamp (by omega)]
  exact br (fun z => x6_no2 (brF f10 (h2 e z))) (fun z => x6_ok (brT rfl ⟨nI_in (by omega) (by omega), fa1 (h0' (by omega) _ (AgX_upd hX hc rfl))⟩))
/-- the two places to save -/
def RSl (slots : Nat → Nat → Int32) (saved kept isKept : Nat → Int32) : Prop :=
  ∀ j, j < 2 → (saved j = 0 ∧ isKept j = 0) ∨ (saved j = 1 ∧ isKept j = 1 ∧ ∃ S, OK S ∧ AgC (slots j) S ∧ ∀ k, k < 221 → kept (221 * j + k) = nI (S k))
theorem vp_nar_b1 : vp_nar .boolean (1 : Int32) = 1 := rfl
theorem isT2 {x : Int32} {A B : Prop} (h1 : isT 2 x = false → A) (h0 : isT 2 x = true → B) : (x < 0 → A) ∧ (¬ (x < 0) → ((x < (2 : Int32) → B) ∧ (¬ (x < (2 : Int32)) → A))) := by
  rw [i_lt, i_lt, show (0 : Int32).toInt = 0 from rfl, show (2 : Int32).toInt = 2 from rfl]
  exact br (fun q => h1 (decide_eq_false (by omega))) (fun q => br (fun p => h0 (decide_eq_true (by omega))) (fun p => h1 (decide_eq_false (by omega))))
theorem x6_in01 {x : Int32} {post : Int32 → Prop} (h : post (bI (isT 2 x))) : P_X6_in x.toInt64 (0 : Int64) (1 : Int64) post := by
  refine x6_in' (f := isT 2 x) ?_ h
  unfold isT
  rw [show (0 : Int64).toInt = 0 from rfl, show (1 : Int64).toInt = 1 from rfl]
  exact decide_eq_decide.mpr (by omega)
theorem ls_save' {V : Prop} (hV : V) {C r kept isKept saved : Nat → Int32} {slots : Nat → Nat → Int32} {S : Nat → Nat} {a : Nat → Int64} {o : Int32} (hC : AgC C S) (hM : AgM r S) (ok : OK S) (hR : RSl slots saved kept isKept) {x : Int32}
    {K : Int32 → (Nat → Nat → Int32) → (Nat → Int32) → (Nat → Int64) → Int32 → Int32 → (Nat → Int32) → (Nat → Int32) → Prop} (h1 : isT 2 x = false → K 1 slots saved a 0 1 kept isKept)
    (h0 : isT 2 x = true → ∀ slots' saved' kept' isKept', RSl slots' saved' kept' isKept' → K 0 slots' saved' (outA a (nI (S 0))) (nI (S 0)) 0 kept' isKept') :
    P_L_save 1 C slots saved a x (fun c sl sv a' => V ∧ P_X6_save o r kept isKept x (fun y o' k' i' => K c sl sv a' y o' k' i')) := by
  unfold P_L_save P_X5_save P_X5_needSlot P_X5_needSlot_b9 P_X6_save P_X6_save_b16
  refine isT2 (fun e => ⟨rfl, hV, x6_in01 (brT (by rw [e]; rfl) (x6_no1 (brF f10 (h1 e))))⟩) (fun e => ?_)
  have h := h0 e
  obtain ⟨j, hj, rfl⟩ := isT_ex (by omega) e
  rw [nI_clamp (by omega)]
  refine ⟨nI_in hj (by omega), ?_⟩
  refine faN ?_
  refine s1_writeTo (fun w hw => ⟨nI_in hj (by omega), s1_townCount hC ⟨in01, hV, x6_in01 (brF (by rw [e]; exact f10) (x6_ok (brT rfl ?_)))⟩⟩)
  refine x6_copy (o1 := 0) (o2 := 221 * j) rfl (by rw [show (221 : Int32) = nI 221 from rfl, pk_mul]) (by omega) (by omega) (by omega) (by omega) (fun q hq1 hq2 => ⟨nI_in hj (by omega), ?_⟩)
  rw [m0 hM]
  refine h _ _ _ _ (fun i hi => ?_)
  show ((if i = j then vp_nar .boolean (1 : Int32) else saved i) = 0 ∧ (if i = j then vp_nar .boolean (1 : Int32) else isKept i) = 0) ∨ ((if i = j then vp_nar .boolean (1 : Int32) else saved i) = 1 ∧ (if i = j then vp_nar .boolean (1 : Int32) else isKept i) = 1 ∧ ∃ S, OK S ∧ AgC (if i = j then w else slots i) S ∧ ∀ k, k < 221 → q (221 * i + k) = nI (S k))
  rw [vp_nar_b1]
  by_cases g : i = j
  · rw [if_pos g, if_pos g, if_pos g]
    refine Or.inr ⟨rfl, rfl, S, ok, AgC_eq hC hw, fun k hk => ?_⟩
    rw [g, hq1 k hk, Nat.zero_add]; exact hM k hk
  · rw [if_neg g, if_neg g, if_neg g]
    rcases hR i hi with z | ⟨z1, z2, S', z3, z4, z5⟩
    · exact Or.inl z
    · exact Or.inr ⟨z1, z2, S', z3, z4, fun k hk => by rw [hq2 _ (by omega)]; exact z5 k hk⟩
theorem ls_restore' {V : Prop} (hV : V) {C r kept isKept saved : Nat → Int32} {slots : Nat → Nat → Int32} {a : Nat → Int64} {o cnt acts : Int32} (hR : RSl slots saved kept isKept) {x : Int32}
    {K : Int32 → (Nat → Int32) → Int32 → (Nat → Int64) → Int32 → Int32 → Int32 → (Nat → Int32) → Prop} (h1 : isT 2 x = false → K 1 C cnt a 0 1 acts r) (h2 : isT 2 x = true → K 2 C cnt a 0 2 acts r)
    (h0 : isT 2 x = true → ∀ S C' r', OK S → AgC C' S → AgM r' S → K 0 C' 0 (outA a (nI (S 0))) (nI (S 0)) 0 0 r') :
    P_L_restore 1 C cnt slots saved a x (fun c C' n' a' => V ∧ P_X6_restore o acts r kept isKept x (fun y o' ac' r' => K c C' n' a' y o' ac' r')) := by
  unfold P_L_restore P_X5_restore P_X5_needSlot P_X5_needSlot_b9 P_X6_restore P_X6_restore_b29 P_X2_clear
  refine isT2 (fun e => Or.inl ⟨rfl, hV, x6_in01 (brT (by rw [e]; rfl) (x6_no1 (brF f10 (h1 e))))⟩) (fun e => ?_)
  have h := h0 e
  have h2' := h2 e
  obtain ⟨j, hj, rfl⟩ := isT_ex (by omega) e
  rw [nI_clamp (by omega)]
  refine ⟨nI_in hj (by omega), ?_⟩
  rcases hR j hj with ⟨z1, z2⟩ | ⟨z1, z2, S, z3, z4, z5⟩
  · refine brT z1 (Or.inr ⟨rfl, hV, x6_in01 (brF (by rw [e]; exact f10) ⟨nI_in hj (by omega), brT z2 (x6_no2 (brF f10 h2'))⟩)⟩)
  · refine brF (by rw [z1]; exact f10) ⟨nI_in hj (by omega), ?_⟩
    refine faN ?_
    refine s1_readFrom (fun w hw => ?_)
    have hw' := AgC_eq z4 hw
    refine s1_townCount hw' ⟨in01, hV, x6_in01 (brF (by rw [e]; exact f10) ⟨nI_in hj (by omega), brF (by rw [z2]; exact f10) (x6_ok (brT rfl ?_))⟩)⟩
    refine x6_copy (o1 := 221 * j) (o2 := 0) (by rw [show (221 : Int32) = nI 221 from rfl, pk_mul]) rfl (by omega) (by omega) (by omega) (by omega) (fun q hq1 hq2 => ?_)
    have hq : AgM q S := fun k hk => by
      have := hq1 k hk
      rw [Nat.zero_add] at this
      rw [this]; exact z5 k hk
    rw [m0 hq]
    exact h S w q z3 hw' hq
